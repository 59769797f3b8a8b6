theorem dX7_masked_8 : decode cX7_masked 8 = .ok (.ior, 1) := by decide +kernel
theorem dX7_masked_9 : decode cX7_masked 9 = .ok (.ldc 160, 2) := by decide +kernel
theorem dX7_masked_11 : decode cX7_masked 11 = .ok (.iadd, 1) := by decide +kernel
theorem dX7_masked_12 : decode cX7_masked 12 = .ok (.ireturn, 1) := by decide +kernel
theorem dX7_sum_0 : decode cX7_sum 0 = .ok (.aload_n 0, 1) := by decide +kernel
theorem dX7_sum_1 : decode cX7_sum 1 = .ok (.iconst 0, 1) := by decide +kernel
theorem dX7_sum_2 : decode cX7_sum 2 = .ok (.putfield 58, 3) := by decide +kernel
theorem dX7_sum_5 : decode cX7_sum 5 = .ok (.iload_n 1, 1) := by decide +kernel
theorem dX7_sum_6 : decode cX7_sum 6 = .ok (.ifCond .lt 25, 3) := by decide +kernel
theorem dX7_sum_9 : decode cX7_sum 9 = .ok (.iload_n 2, 1) := by decide +kernel
theorem dX7_sum_10 : decode cX7_sum 10 = .ok (.ifCond .lt 21, 3) := by decide +kernel
theorem dX7_sum_13 : decode cX7_sum 13 = .ok (.iload_n 1, 1) := by decide +kernel
theorem dX7_sum_14 : decode cX7_sum 14 = .ok (.aload_n 0, 1) := by decide +kernel
theorem dX7_sum_15 : decode cX7_sum 15 = .ok (.getfield 61, 3) := by decide +kernel
theorem dX7_sum_18 : decode cX7_sum 18 = .ok (.if_icmp .gt 13, 3) := by decide +kernel
theorem dX7_sum_21 : decode cX7_sum 21 = .ok (.iload_n 2, 1) := by decide +kernel
theorem dX7_sum_22 : decode cX7_sum 22 = .ok (.aload_n 0, 1) := by decide +kernel
theorem dX7_sum_23 : decode cX7_sum 23 = .ok (.getfield 61, 3) := by decide +kernel
theorem dX7_sum_26 : decode cX7_sum 26 = .ok (.iload_n 1, 1) := by decide +kernel
theorem dX7_sum_27 : decode cX7_sum 27 = .ok (.isub, 1) := by decide +kernel
theorem dX7_sum_28 : decode cX7_sum 28 = .ok (.if_icmp .le 5, 3) := by decide +kernel
theorem dX7_sum_31 : decode cX7_sum 31 = .ok (.iconst 0, 1) := by decide +kernel
theorem dX7_sum_32 : decode cX7_sum 32 = .ok (.ireturn, 1) := by decide +kernel
theorem dX7_sum_33 : decode cX7_sum 33 = .ok (.aload_n 0, 1) := by decide +kernel
theorem dX7_sum_34 : decode cX7_sum 34 = .ok (.aload_n 0, 1) := by decide +kernel
theorem dX7_sum_35 : decode cX7_sum 35 = .ok (.getfield 7, 3) := by decide +kernel
theorem dX7_sum_38 : decode cX7_sum 38 = .ok (.iload_n 1, 1) := by decide +kernel
theorem dX7_sum_39 : decode cX7_sum 39 = .ok (.iload_n 1, 1) := by decide +kernel
theorem dX7_sum_40 : decode cX7_sum 40 = .ok (.iload_n 2, 1) := by decide +kernel
theorem dX7_sum_41 : decode cX7_sum 41 = .ok (.iadd, 1) := by decide +kernel
theorem dX7_sum_42 : decode cX7_sum 42 = .ok (.invokevirtual 161, 3) := by decide +kernel
theorem dX7_sum_45 : decode cX7_sum 45 = .ok (.istore 4, 2) := by decide +kernel
theorem dX7_sum_47 : decode cX7_sum 47 = .ok (.iload_n 3, 1) := by decide +kernel
theorem dX7_sum_48 : decode cX7_sum 48 = .ok (.ifCond .eq 12, 3) := by decide +kernel
theorem dX7_sum_51 : decode cX7_sum 51 = .ok (.aload_n 0, 1) := by decide +kernel
theorem dX7_sum_52 : decode cX7_sum 52 = .ok (.iload 4, 2) := by decide +kernel
theorem dX7_sum_54 : decode cX7_sum 54 = .ok (.invokevirtual 165, 3) := by decide +kernel
theorem dX7_sum_57 : decode cX7_sum 57 = .ok (.goto 5, 3) := by decide +kernel
theorem dX7_sum_60 : decode cX7_sum 60 = .ok (.iload 4, 2) := by decide +kernel
theorem dX7_sum_62 : decode cX7_sum 62 = .ok (.ireturn, 1) := by decide +kernel
theorem dX7_name_0 : decode cX7_name 0 = .ok (.iload_n 1, 1) := by decide +kernel
theorem dX7_name_1 : decode cX7_name 1 = .ok (.tableswitch 50 0 4 #[35, 38, 41, 44, 47], 35) := by decide +kernel
theorem dX7_name_36 : decode cX7_name 36 = .ok (.bipush 115, 2) := by decide +kernel
theorem dX7_name_38 : decode cX7_name 38 = .ok (.ireturn, 1) := by decide +kernel
theorem dX7_name_39 : decode cX7_name 39 = .ok (.bipush 78, 2) := by decide +kernel
theorem dX7_name_41 : decode cX7_name 41 = .ok (.ireturn, 1) := by decide +kernel
theorem dX7_name_42 : decode cX7_name 42 = .ok (.bipush 97, 2) := by decide +kernel
theorem dX7_name_44 : decode cX7_name 44 = .ok (.ireturn, 1) := by decide +kernel
theorem dX7_name_45 : decode cX7_name 45 = .ok (.bipush 80, 2) := by decide +kernel
theorem dX7_name_47 : decode cX7_name 47 = .ok (.ireturn, 1) := by decide +kernel
theorem dX7_name_48 : decode cX7_name 48 = .ok (.bipush 112, 2) := by decide +kernel
theorem dX7_name_50 : decode cX7_name 50 = .ok (.ireturn, 1) := by decide +kernel
theorem dX7_name_51 : decode cX7_name 51 = .ok (.bipush 89, 2) := by decide +kernel
theorem dX7_name_53 : decode cX7_name 53 = .ok (.ireturn, 1) := by decide +kernel
theorem dX7_isName_0 : decode cX7_isName 0 = .ok (.iconst 0, 1) := by decide +kernel
theorem dX7_isName_1 : decode cX7_isName 1 = .ok (.istore_n 2, 1) := by decide +kernel
theorem dX7_isName_2 : decode cX7_isName 2 = .ok (.iload_n 2, 1) := by decide +kernel
theorem dX7_isName_3 : decode cX7_isName 3 = .ok (.bipush 6, 2) := by decide +kernel
theorem dX7_isName_5 : decode cX7_isName 5 = .ok (.if_icmp .ge 26, 3) := by decide +kernel
theorem dX7_isName_8 : decode cX7_isName 8 = .ok (.aload_n 0, 1) := by decide +kernel
theorem dX7_isName_9 : decode cX7_isName 9 = .ok (.iload_n 1, 1) := by decide +kernel
theorem dX7_isName_10 : decode cX7_isName 10 = .ok (.iload_n 2, 1) := by decide +kernel
theorem dX7_isName_11 : decode cX7_isName 11 = .ok (.iadd, 1) := by decide +kernel
theorem dX7_isName_12 : decode cX7_isName 12 = .ok (.invokevirtual 71, 3) := by decide +kernel
theorem dX7_isName_15 : decode cX7_isName 15 = .ok (.aload_n 0, 1) := by decide +kernel
theorem dX7_isName_16 : decode cX7_isName 16 = .ok (.iload_n 2, 1) := by decide +kernel
theorem dX7_isName_17 : decode cX7_isName 17 = .ok (.invokevirtual 168, 3) := by decide +kernel
theorem dX7_isName_20 : decode cX7_isName 20 = .ok (.if_icmp .eq 5, 3) := by decide +kernel
theorem dX7_isName_23 : decode cX7_isName 23 = .ok (.iconst 0, 1) := by decide +kernel
theorem dX7_isName_24 : decode cX7_isName 24 = .ok (.ireturn, 1) := by decide +kernel
theorem dX7_isName_25 : decode cX7_isName 25 = .ok (.iinc 2 1, 3) := by decide +kernel
theorem dX7_isName_28 : decode cX7_isName 28 = .ok (.goto (-26), 3) := by decide +kernel
theorem dX7_isName_31 : decode cX7_isName 31 = .ok (.iconst 1, 1) := by decide +kernel
theorem dX7_isName_32 : decode cX7_isName 32 = .ok (.ireturn, 1) := by decide +kernel
theorem dX7_fourAt_0 : decode cX7_fourAt 0 = .ok (.aload_n 0, 1) := by decide +kernel
theorem dX7_fourAt_1 : decode cX7_fourAt 1 = .ok (.iload_n 1, 1) := by decide +kernel
theorem dX7_fourAt_2 : decode cX7_fourAt 2 = .ok (.invokevirtual 71, 3) := by decide +kernel
theorem dX7_fourAt_5 : decode cX7_fourAt 5 = .ok (.aload_n 0, 1) := by decide +kernel
theorem dX7_fourAt_6 : decode cX7_fourAt 6 = .ok (.iload_n 1, 1) := by decide +kernel
theorem dX7_fourAt_7 : decode cX7_fourAt 7 = .ok (.iconst 1, 1) := by decide +kernel
theorem dX7_fourAt_8 : decode cX7_fourAt 8 = .ok (.iadd, 1) := by decide +kernel
theorem dX7_fourAt_9 : decode cX7_fourAt 9 = .ok (.invokevirtual 71, 3) := by decide +kernel
theorem dX7_fourAt_12 : decode cX7_fourAt 12 = .ok (.bipush 8, 2) := by decide +kernel
theorem dX7_fourAt_14 : decode cX7_fourAt 14 = .ok (.ishl, 1) := by decide +kernel
theorem dX7_fourAt_15 : decode cX7_fourAt 15 = .ok (.ior, 1) := by decide +kernel
theorem dX7_fourAt_16 : decode cX7_fourAt 16 = .ok (.aload_n 0, 1) := by decide +kernel
theorem dX7_fourAt_17 : decode cX7_fourAt 17 = .ok (.iload_n 1, 1) := by decide +kernel
theorem dX7_fourAt_18 : decode cX7_fourAt 18 = .ok (.iconst 2, 1) := by decide +kernel
theorem dX7_fourAt_19 : decode cX7_fourAt 19 = .ok (.iadd, 1) := by decide +kernel
theorem dX7_fourAt_20 : decode cX7_fourAt 20 = .ok (.invokevirtual 71, 3) := by decide +kernel
theorem dX7_fourAt_23 : decode cX7_fourAt 23 = .ok (.bipush 16, 2) := by decide +kernel
theorem dX7_fourAt_25 : decode cX7_fourAt 25 = .ok (.ishl, 1) := by decide +kernel
theorem dX7_fourAt_26 : decode cX7_fourAt 26 = .ok (.ior, 1) := by decide +kernel
theorem dX7_fourAt_27 : decode cX7_fourAt 27 = .ok (.aload_n 0, 1) := by decide +kernel
theorem dX7_fourAt_28 : decode cX7_fourAt 28 = .ok (.iload_n 1, 1) := by decide +kernel
theorem dX7_fourAt_29 : decode cX7_fourAt 29 = .ok (.iconst 3, 1) := by decide +kernel
theorem dX7_fourAt_30 : decode cX7_fourAt 30 = .ok (.iadd, 1) := by decide +kernel
theorem dX7_fourAt_31 : decode cX7_fourAt 31 = .ok (.invokevirtual 71, 3) := by decide +kernel
theorem dX7_fourAt_34 : decode cX7_fourAt 34 = .ok (.bipush 24, 2) := by decide +kernel
theorem dX7_fourAt_36 : decode cX7_fourAt 36 = .ok (.ishl, 1) := by decide +kernel
theorem dX7_fourAt_37 : decode cX7_fourAt 37 = .ok (.ior, 1) := by decide +kernel
theorem dX7_fourAt_38 : decode cX7_fourAt 38 = .ok (.ireturn, 1) := by decide +kernel
theorem dX7_unstream_0 : decode cX7_unstream 0 = .ok (.aload_n 0, 1) := by decide +kernel
theorem dX7_unstream_1 : decode cX7_unstream 1 = .ok (.iconst 0, 1) := by decide +kernel
theorem dX7_unstream_2 : decode cX7_unstream 2 = .ok (.putfield 58, 3) := by decide +kernel
theorem dX7_unstream_5 : decode cX7_unstream 5 = .ok (.aload_n 0, 1) := by decide +kernel
theorem dX7_unstream_6 : decode cX7_unstream 6 = .ok (.iconst 0, 1) := by decide +kernel
theorem dX7_unstream_7 : decode cX7_unstream 7 = .ok (.putfield 119, 3) := by decide +kernel
theorem dX7_unstream_10 : decode cX7_unstream 10 = .ok (.aload_n 0, 1) := by decide +kernel
theorem dX7_unstream_11 : decode cX7_unstream 11 = .ok (.iconst 0, 1) := by decide +kernel
theorem dX7_unstream_12 : decode cX7_unstream 12 = .ok (.putfield 171, 3) := by decide +kernel
theorem dX7_unstream_15 : decode cX7_unstream 15 = .ok (.aload_n 0, 1) := by decide +kernel
theorem dX7_unstream_16 : decode cX7_unstream 16 = .ok (.iconst 0, 1) := by decide +kernel
theorem dX7_unstream_17 : decode cX7_unstream 17 = .ok (.putfield 174, 3) := by decide +kernel
theorem dX7_unstream_20 : decode cX7_unstream 20 = .ok (.aload_n 0, 1) := by decide +kernel
theorem dX7_unstream_21 : decode cX7_unstream 21 = .ok (.iconst 0, 1) := by decide +kernel
theorem dX7_unstream_22 : decode cX7_unstream 22 = .ok (.iconst (-1), 1) := by decide +kernel
theorem dX7_unstream_23 : decode cX7_unstream 23 = .ok (.iconst 0, 1) := by decide +kernel
theorem dX7_unstream_24 : decode cX7_unstream 24 = .ok (.iconst (-1), 1) := by decide +kernel
theorem dX7_unstream_25 : decode cX7_unstream 25 = .ok (.invokevirtual 144, 3) := by decide +kernel
theorem dX7_unstream_28 : decode cX7_unstream 28 = .ok (.iconst 0, 1) := by decide +kernel
theorem dX7_unstream_29 : decode cX7_unstream 29 = .ok (.istore_n 1, 1) := by decide +kernel
theorem dX7_unstream_30 : decode cX7_unstream 30 = .ok (.aload_n 0, 1) := by decide +kernel
theorem dX7_unstream_31 : decode cX7_unstream 31 = .ok (.getfield 61, 3) := by decide +kernel
theorem dX7_unstream_34 : decode cX7_unstream 34 = .ok (.ifCond .ne 12, 3) := by decide +kernel
theorem dX7_unstream_37 : decode cX7_unstream 37 = .ok (.aload_n 0, 1) := by decide +kernel
theorem dX7_unstream_38 : decode cX7_unstream 38 = .ok (.bipush 11, 2) := by decide +kernel
theorem dX7_unstream_40 : decode cX7_unstream 40 = .ok (.iconst 0, 1) := by decide +kernel
theorem dX7_unstream_41 : decode cX7_unstream 41 = .ok (.iconst 0, 1) := by decide +kernel
theorem dX7_unstream_42 : decode cX7_unstream 42 = .ok (.iconst (-1), 1) := by decide +kernel
theorem dX7_unstream_43 : decode cX7_unstream 43 = .ok (.invokevirtual 144, 3) := by decide +kernel
theorem dX7_unstream_46 : decode cX7_unstream 46 = .ok (.iload_n 1, 1) := by decide +kernel
theorem dX7_unstream_47 : decode cX7_unstream 47 = .ok (.aload_n 0, 1) := by decide +kernel
theorem dX7_unstream_48 : decode cX7_unstream 48 = .ok (.getfield 61, 3) := by decide +kernel
theorem dX7_unstream_51 : decode cX7_unstream 51 = .ok (.if_icmp .ge 19, 3) := by decide +kernel
theorem dX7_unstream_54 : decode cX7_unstream 54 = .ok (.aload_n 0, 1) := by decide +kernel
theorem dX7_unstream_55 : decode cX7_unstream 55 = .ok (.getfield 38, 3) := by decide +kernel
theorem dX7_unstream_58 : decode cX7_unstream 58 = .ok (.ifCond .ne 12, 3) := by decide +kernel
theorem dX7_unstream_61 : decode cX7_unstream 61 = .ok (.aload_n 0, 1) := by decide +kernel
theorem dX7_unstream_62 : decode cX7_unstream 62 = .ok (.iload_n 1, 1) := by decide +kernel
theorem dX7_unstream_63 : decode cX7_unstream 63 = .ok (.invokevirtual 177, 3) := by decide +kernel
theorem dX7_unstream_66 : decode cX7_unstream 66 = .ok (.istore_n 1, 1) := by decide +kernel
theorem dX7_unstream_67 : decode cX7_unstream 67 = .ok (.goto (-21), 3) := by decide +kernel
theorem dX7_unstream_70 : decode cX7_unstream 70 = .ok (.aload_n 0, 1) := by decide +kernel
theorem dX7_unstream_71 : decode cX7_unstream 71 = .ok (.getfield 38, 3) := by decide +kernel
theorem dX7_unstream_74 : decode cX7_unstream 74 = .ok (.ifCond .le 6, 3) := by decide +kernel
theorem dX7_unstream_77 : decode cX7_unstream 77 = .ok (.bipush (-2), 2) := by decide +kernel
theorem dX7_unstream_79 : decode cX7_unstream 79 = .ok (.ireturn, 1) := by decide +kernel
theorem dX7_unstream_80 : decode cX7_unstream 80 = .ok (.aload_n 0, 1) := by decide +kernel
theorem dX7_unstream_81 : decode cX7_unstream 81 = .ok (.aload_n 0, 1) := by decide +kernel
theorem dX7_unstream_82 : decode cX7_unstream 82 = .ok (.getfield 16, 3) := by decide +kernel
theorem dX7_unstream_85 : decode cX7_unstream 85 = .ok (.aload_n 0, 1) := by decide +kernel
theorem dX7_unstream_86 : decode cX7_unstream 86 = .ok (.getfield 119, 3) := by decide +kernel
theorem dX7_unstream_89 : decode cX7_unstream 89 = .ok (.invokevirtual 103, 3) := by decide +kernel
theorem dX7_unstream_92 : decode cX7_unstream 92 = .ok (.aload_n 0, 1) := by decide +kernel
theorem dX7_unstream_93 : decode cX7_unstream 93 = .ok (.aload_n 0, 1) := by decide +kernel
theorem dX7_unstream_94 : decode cX7_unstream 94 = .ok (.getfield 171, 3) := by decide +kernel
theorem dX7_unstream_97 : decode cX7_unstream 97 = .ok (.putfield 154, 3) := by decide +kernel
theorem dX7_unstream_100 : decode cX7_unstream 100 = .ok (.aload_n 0, 1) := by decide +kernel
theorem dX7_unstream_101 : decode cX7_unstream 101 = .ok (.aload_n 0, 1) := by decide +kernel
theorem dX7_unstream_102 : decode cX7_unstream 102 = .ok (.getfield 174, 3) := by decide +kernel
theorem dX7_unstream_105 : decode cX7_unstream 105 = .ok (.putfield 157, 3) := by decide +kernel
theorem dX7_unstream_108 : decode cX7_unstream 108 = .ok (.iconst 0, 1) := by decide +kernel
theorem dX7_unstream_109 : decode cX7_unstream 109 = .ok (.istore_n 2, 1) := by decide +kernel
theorem dX7_unstream_110 : decode cX7_unstream 110 = .ok (.iload_n 2, 1) := by decide +kernel
theorem dX7_unstream_111 : decode cX7_unstream 111 = .ok (.iconst 5, 1) := by decide +kernel
theorem dX7_unstream_112 : decode cX7_unstream 112 = .ok (.aload_n 0, 1) := by decide +kernel
theorem dX7_unstream_113 : decode cX7_unstream 113 = .ok (.getfield 171, 3) := by decide +kernel
theorem dX7_unstream_116 : decode cX7_unstream 116 = .ok (.imul, 1) := by decide +kernel
theorem dX7_unstream_117 : decode cX7_unstream 117 = .ok (.if_icmp .ge 28, 3) := by decide +kernel
theorem dX7_unstream_120 : decode cX7_unstream 120 = .ok (.iload_n 2, 1) := by decide +kernel
theorem dX7_unstream_121 : decode cX7_unstream 121 = .ok (.sipush 5000, 3) := by decide +kernel
theorem dX7_unstream_124 : decode cX7_unstream 124 = .ok (.if_icmp .ge 21, 3) := by decide +kernel
theorem dX7_unstream_127 : decode cX7_unstream 127 = .ok (.aload_n 0, 1) := by decide +kernel
theorem dX7_unstream_128 : decode cX7_unstream 128 = .ok (.getfield 35, 3) := by decide +kernel
theorem dX7_unstream_131 : decode cX7_unstream 131 = .ok (.iload_n 2, 1) := by decide +kernel
theorem dX7_unstream_132 : decode cX7_unstream 132 = .ok (.aload_n 0, 1) := by decide +kernel
theorem dX7_unstream_133 : decode cX7_unstream 133 = .ok (.getfield 51, 3) := by decide +kernel
theorem dX7_unstream_136 : decode cX7_unstream 136 = .ok (.iload_n 2, 1) := by decide +kernel
theorem dX7_unstream_137 : decode cX7_unstream 137 = .ok (.iaload, 1) := by decide +kernel
theorem dX7_unstream_138 : decode cX7_unstream 138 = .ok (.iastore, 1) := by decide +kernel
theorem dX7_unstream_139 : decode cX7_unstream 139 = .ok (.iinc 2 1, 3) := by decide +kernel
theorem dX7_unstream_142 : decode cX7_unstream 142 = .ok (.goto (-32), 3) := by decide +kernel
theorem dX7_unstream_145 : decode cX7_unstream 145 = .ok (.aload_n 0, 1) := by decide +kernel
theorem dX7_unstream_146 : decode cX7_unstream 146 = .ok (.getfield 68, 3) := by decide +kernel
theorem dX7_unstream_149 : decode cX7_unstream 149 = .ok (.ireturn, 1) := by decide +kernel
theorem dX7_chunkAt_0 : decode cX7_chunkAt 0 = .ok (.aload_n 0, 1) := by decide +kernel
theorem dX7_chunkAt_1 : decode cX7_chunkAt 1 = .ok (.iload_n 1, 1) := by decide +kernel
theorem dX7_chunkAt_2 : decode cX7_chunkAt 2 = .ok (.invokevirtual 71, 3) := by decide +kernel
theorem dX7_chunkAt_5 : decode cX7_chunkAt 5 = .ok (.istore_n 2, 1) := by decide +kernel
theorem dX7_chunkAt_6 : decode cX7_chunkAt 6 = .ok (.iload_n 1, 1) := by decide +kernel
theorem dX7_chunkAt_7 : decode cX7_chunkAt 7 = .ok (.ifCond .ne 21, 3) := by decide +kernel
theorem dX7_chunkAt_10 : decode cX7_chunkAt 10 = .ok (.iload_n 2, 1) := by decide +kernel
theorem dX7_chunkAt_11 : decode cX7_chunkAt 11 = .ok (.sipush 255, 3) := by decide +kernel
theorem dX7_chunkAt_14 : decode cX7_chunkAt 14 = .ok (.if_icmp .eq 14, 3) := by decide +kernel
theorem dX7_chunkAt_17 : decode cX7_chunkAt 17 = .ok (.aload_n 0, 1) := by decide +kernel
theorem dX7_chunkAt_18 : decode cX7_chunkAt 18 = .ok (.bipush 11, 2) := by decide +kernel
theorem dX7_chunkAt_20 : decode cX7_chunkAt 20 = .ok (.iload_n 1, 1) := by decide +kernel
theorem dX7_chunkAt_21 : decode cX7_chunkAt 21 = .ok (.iconst 0, 1) := by decide +kernel
theorem dX7_chunkAt_22 : decode cX7_chunkAt 22 = .ok (.iconst (-1), 1) := by decide +kernel
theorem dX7_chunkAt_23 : decode cX7_chunkAt 23 = .ok (.invokevirtual 144, 3) := by decide +kernel
theorem dX7_chunkAt_26 : decode cX7_chunkAt 26 = .ok (.iload_n 1, 1) := by decide +kernel
theorem dX7_chunkAt_27 : decode cX7_chunkAt 27 = .ok (.ireturn, 1) := by decide +kernel
theorem dX7_chunkAt_28 : decode cX7_chunkAt 28 = .ok (.aload_n 0, 1) := by decide +kernel
theorem dX7_chunkAt_29 : decode cX7_chunkAt 29 = .ok (.getfield 61, 3) := by decide +kernel
theorem dX7_chunkAt_32 : decode cX7_chunkAt 32 = .ok (.iload_n 1, 1) := by decide +kernel
theorem dX7_chunkAt_33 : decode cX7_chunkAt 33 = .ok (.isub, 1) := by decide +kernel
theorem dX7_chunkAt_34 : decode cX7_chunkAt 34 = .ok (.iconst 4, 1) := by decide +kernel
theorem dX7_chunkAt_35 : decode cX7_chunkAt 35 = .ok (.isub, 1) := by decide +kernel
theorem dX7_chunkAt_36 : decode cX7_chunkAt 36 = .ok (.istore_n 3, 1) := by decide +kernel
theorem dX7_chunkAt_37 : decode cX7_chunkAt 37 = .ok (.iload_n 3, 1) := by decide +kernel
theorem dX7_chunkAt_38 : decode cX7_chunkAt 38 = .ok (.ifCond .ge 7, 3) := by decide +kernel
theorem dX7_chunkAt_41 : decode cX7_chunkAt 41 = .ok (.iconst 0, 1) := by decide +kernel
theorem dX7_chunkAt_42 : decode cX7_chunkAt 42 = .ok (.goto 32, 3) := by decide +kernel
theorem dX7_chunkAt_45 : decode cX7_chunkAt 45 = .ok (.aload_n 0, 1) := by decide +kernel
theorem dX7_chunkAt_46 : decode cX7_chunkAt 46 = .ok (.iload_n 1, 1) := by decide +kernel
theorem dX7_chunkAt_47 : decode cX7_chunkAt 47 = .ok (.iconst 1, 1) := by decide +kernel
theorem dX7_chunkAt_48 : decode cX7_chunkAt 48 = .ok (.iadd, 1) := by decide +kernel
theorem dX7_chunkAt_49 : decode cX7_chunkAt 49 = .ok (.invokevirtual 71, 3) := by decide +kernel
theorem dX7_chunkAt_52 : decode cX7_chunkAt 52 = .ok (.aload_n 0, 1) := by decide +kernel
theorem dX7_chunkAt_53 : decode cX7_chunkAt 53 = .ok (.iload_n 1, 1) := by decide +kernel
theorem dX7_chunkAt_54 : decode cX7_chunkAt 54 = .ok (.iconst 2, 1) := by decide +kernel
theorem dX7_chunkAt_55 : decode cX7_chunkAt 55 = .ok (.iadd, 1) := by decide +kernel
theorem dX7_chunkAt_56 : decode cX7_chunkAt 56 = .ok (.invokevirtual 71, 3) := by decide +kernel
theorem dX7_chunkAt_59 : decode cX7_chunkAt 59 = .ok (.bipush 8, 2) := by decide +kernel
theorem dX7_chunkAt_61 : decode cX7_chunkAt 61 = .ok (.ishl, 1) := by decide +kernel
theorem dX7_chunkAt_62 : decode cX7_chunkAt 62 = .ok (.ior, 1) := by decide +kernel
theorem dX7_chunkAt_63 : decode cX7_chunkAt 63 = .ok (.aload_n 0, 1) := by decide +kernel
theorem dX7_chunkAt_64 : decode cX7_chunkAt 64 = .ok (.iload_n 1, 1) := by decide +kernel
theorem dX7_chunkAt_65 : decode cX7_chunkAt 65 = .ok (.iconst 3, 1) := by decide +kernel
theorem dX7_chunkAt_66 : decode cX7_chunkAt 66 = .ok (.iadd, 1) := by decide +kernel
theorem dX7_chunkAt_67 : decode cX7_chunkAt 67 = .ok (.invokevirtual 71, 3) := by decide +kernel
theorem dX7_chunkAt_70 : decode cX7_chunkAt 70 = .ok (.bipush 16, 2) := by decide +kernel
theorem dX7_chunkAt_72 : decode cX7_chunkAt 72 = .ok (.ishl, 1) := by decide +kernel
theorem dX7_chunkAt_73 : decode cX7_chunkAt 73 = .ok (.ior, 1) := by decide +kernel
theorem dX7_chunkAt_74 : decode cX7_chunkAt 74 = .ok (.istore 4, 2) := by decide +kernel
theorem dX7_chunkAt_76 : decode cX7_chunkAt 76 = .ok (.iload_n 3, 1) := by decide +kernel
theorem dX7_chunkAt_77 : decode cX7_chunkAt 77 = .ok (.iload 4, 2) := by decide +kernel
theorem dX7_chunkAt_79 : decode cX7_chunkAt 79 = .ok (.if_icmp .ge 14, 3) := by decide +kernel
theorem dX7_chunkAt_82 : decode cX7_chunkAt 82 = .ok (.aload_n 0, 1) := by decide +kernel
theorem dX7_chunkAt_83 : decode cX7_chunkAt 83 = .ok (.bipush 12, 2) := by decide +kernel
theorem dX7_chunkAt_85 : decode cX7_chunkAt 85 = .ok (.iload_n 1, 1) := by decide +kernel
theorem dX7_chunkAt_86 : decode cX7_chunkAt 86 = .ok (.iconst 0, 1) := by decide +kernel
theorem dX7_chunkAt_87 : decode cX7_chunkAt 87 = .ok (.iconst (-1), 1) := by decide +kernel
theorem dX7_chunkAt_88 : decode cX7_chunkAt 88 = .ok (.invokevirtual 144, 3) := by decide +kernel
theorem dX7_chunkAt_91 : decode cX7_chunkAt 91 = .ok (.iload_n 1, 1) := by decide +kernel
theorem dX7_chunkAt_92 : decode cX7_chunkAt 92 = .ok (.ireturn, 1) := by decide +kernel
theorem dX7_chunkAt_93 : decode cX7_chunkAt 93 = .ok (.iload_n 1, 1) := by decide +kernel
theorem dX7_chunkAt_94 : decode cX7_chunkAt 94 = .ok (.iconst 4, 1) := by decide +kernel
theorem dX7_chunkAt_95 : decode cX7_chunkAt 95 = .ok (.iadd, 1) := by decide +kernel
theorem dX7_chunkAt_96 : decode cX7_chunkAt 96 = .ok (.istore 5, 2) := by decide +kernel
theorem dX7_chunkAt_98 : decode cX7_chunkAt 98 = .ok (.iload_n 2, 1) := by decide +kernel
theorem dX7_chunkAt_99 : decode cX7_chunkAt 99 = .ok (.sipush 255, 3) := by decide +kernel
theorem dX7_chunkAt_102 : decode cX7_chunkAt 102 = .ok (.if_icmp .ne 28, 3) := by decide +kernel
theorem dX7_chunkAt_105 : decode cX7_chunkAt 105 = .ok (.iload 4, 2) := by decide +kernel
theorem dX7_chunkAt_107 : decode cX7_chunkAt 107 = .ok (.bipush 6, 2) := by decide +kernel
theorem dX7_chunkAt_109 : decode cX7_chunkAt 109 = .ok (.if_icmp .ne 12, 3) := by decide +kernel
theorem dX7_chunkAt_112 : decode cX7_chunkAt 112 = .ok (.aload_n 0, 1) := by decide +kernel
theorem dX7_chunkAt_113 : decode cX7_chunkAt 113 = .ok (.iload 5, 2) := by decide +kernel
theorem dX7_chunkAt_115 : decode cX7_chunkAt 115 = .ok (.invokevirtual 180, 3) := by decide +kernel
theorem dX7_chunkAt_118 : decode cX7_chunkAt 118 = .ok (.ifCond .ne 12, 3) := by decide +kernel
theorem dX7_chunkAt_121 : decode cX7_chunkAt 121 = .ok (.aload_n 0, 1) := by decide +kernel
theorem dX7_chunkAt_122 : decode cX7_chunkAt 122 = .ok (.bipush 13, 2) := by decide +kernel
theorem dX7_chunkAt_124 : decode cX7_chunkAt 124 = .ok (.iload_n 1, 1) := by decide +kernel
theorem dX7_chunkAt_125 : decode cX7_chunkAt 125 = .ok (.iconst 0, 1) := by decide +kernel
theorem dX7_chunkAt_126 : decode cX7_chunkAt 126 = .ok (.iconst (-1), 1) := by decide +kernel
theorem dX7_chunkAt_127 : decode cX7_chunkAt 127 = .ok (.invokevirtual 144, 3) := by decide +kernel
theorem dX7_chunkAt_130 : decode cX7_chunkAt 130 = .ok (.iload_n 2, 1) := by decide +kernel
theorem dX7_chunkAt_131 : decode cX7_chunkAt 131 = .ok (.iconst 1, 1) := by decide +kernel
theorem dX7_chunkAt_132 : decode cX7_chunkAt 132 = .ok (.if_icmp .le 19, 3) := by decide +kernel
theorem dX7_chunkAt_135 : decode cX7_chunkAt 135 = .ok (.iload_n 2, 1) := by decide +kernel
theorem dX7_chunkAt_136 : decode cX7_chunkAt 136 = .ok (.sipush 128, 3) := by decide +kernel
theorem dX7_chunkAt_139 : decode cX7_chunkAt 139 = .ok (.if_icmp .ge 12, 3) := by decide +kernel
theorem dX7_chunkAt_142 : decode cX7_chunkAt 142 = .ok (.aload_n 0, 1) := by decide +kernel
theorem dX7_chunkAt_143 : decode cX7_chunkAt 143 = .ok (.bipush 14, 2) := by decide +kernel
theorem dX7_chunkAt_145 : decode cX7_chunkAt 145 = .ok (.iload_n 1, 1) := by decide +kernel
theorem dX7_chunkAt_146 : decode cX7_chunkAt 146 = .ok (.iconst 0, 1) := by decide +kernel
theorem dX7_chunkAt_147 : decode cX7_chunkAt 147 = .ok (.iconst (-1), 1) := by decide +kernel
theorem dX7_chunkAt_148 : decode cX7_chunkAt 148 = .ok (.invokevirtual 144, 3) := by decide +kernel
theorem dX7_chunkAt_151 : decode cX7_chunkAt 151 = .ok (.iload_n 2, 1) := by decide +kernel
theorem dX7_chunkAt_152 : decode cX7_chunkAt 152 = .ok (.iconst 2, 1) := by decide +kernel
theorem dX7_chunkAt_153 : decode cX7_chunkAt 153 = .ok (.if_icmp .ge 18, 3) := by decide +kernel
theorem dX7_chunkAt_156 : decode cX7_chunkAt 156 = .ok (.iload 4, 2) := by decide +kernel
theorem dX7_chunkAt_158 : decode cX7_chunkAt 158 = .ok (.iconst 4, 1) := by decide +kernel
theorem dX7_chunkAt_159 : decode cX7_chunkAt 159 = .ok (.if_icmp .ge 12, 3) := by decide +kernel
theorem dX7_chunkAt_162 : decode cX7_chunkAt 162 = .ok (.aload_n 0, 1) := by decide +kernel
theorem dX7_chunkAt_163 : decode cX7_chunkAt 163 = .ok (.bipush 15, 2) := by decide +kernel
theorem dX7_chunkAt_165 : decode cX7_chunkAt 165 = .ok (.iload_n 1, 1) := by decide +kernel
theorem dX7_chunkAt_166 : decode cX7_chunkAt 166 = .ok (.iconst 0, 1) := by decide +kernel
theorem dX7_chunkAt_167 : decode cX7_chunkAt 167 = .ok (.iconst (-1), 1) := by decide +kernel
theorem dX7_chunkAt_168 : decode cX7_chunkAt 168 = .ok (.invokevirtual 144, 3) := by decide +kernel
theorem dX7_chunkAt_171 : decode cX7_chunkAt 171 = .ok (.aload_n 0, 1) := by decide +kernel
theorem dX7_chunkAt_172 : decode cX7_chunkAt 172 = .ok (.getfield 38, 3) := by decide +kernel
theorem dX7_chunkAt_175 : decode cX7_chunkAt 175 = .ok (.ifCond .le 5, 3) := by decide +kernel
theorem dX7_chunkAt_178 : decode cX7_chunkAt 178 = .ok (.iload_n 1, 1) := by decide +kernel
theorem dX7_chunkAt_179 : decode cX7_chunkAt 179 = .ok (.ireturn, 1) := by decide +kernel
theorem dX7_chunkAt_180 : decode cX7_chunkAt 180 = .ok (.aload_n 0, 1) := by decide +kernel
theorem dX7_chunkAt_181 : decode cX7_chunkAt 181 = .ok (.getfield 119, 3) := by decide +kernel
theorem dX7_chunkAt_184 : decode cX7_chunkAt 184 = .ok (.istore 6, 2) := by decide +kernel
theorem dX7_chunkAt_186 : decode cX7_chunkAt 186 = .ok (.iload_n 2, 1) := by decide +kernel
theorem dX7_chunkAt_187 : decode cX7_chunkAt 187 = .ok (.iconst 2, 1) := by decide +kernel
theorem dX7_chunkAt_188 : decode cX7_chunkAt 188 = .ok (.if_icmp .ge 18, 3) := by decide +kernel
theorem dX7_chunkAt_191 : decode cX7_chunkAt 191 = .ok (.aload_n 0, 1) := by decide +kernel
theorem dX7_chunkAt_192 : decode cX7_chunkAt 192 = .ok (.iload_n 1, 1) := by decide +kernel
theorem dX7_chunkAt_193 : decode cX7_chunkAt 193 = .ok (.iload_n 2, 1) := by decide +kernel
theorem dX7_chunkAt_194 : decode cX7_chunkAt 194 = .ok (.iload 5, 2) := by decide +kernel
theorem dX7_chunkAt_196 : decode cX7_chunkAt 196 = .ok (.iconst 4, 1) := by decide +kernel
theorem dX7_chunkAt_197 : decode cX7_chunkAt 197 = .ok (.iadd, 1) := by decide +kernel
theorem dX7_chunkAt_198 : decode cX7_chunkAt 198 = .ok (.iload 5, 2) := by decide +kernel
theorem dX7_chunkAt_200 : decode cX7_chunkAt 200 = .ok (.iload 4, 2) := by decide +kernel
theorem dX7_chunkAt_202 : decode cX7_chunkAt 202 = .ok (.iadd, 1) := by decide +kernel
theorem dX7_chunkAt_203 : decode cX7_chunkAt 203 = .ok (.invokevirtual 184, 3) := by decide +kernel
theorem dX7_chunkAt_206 : decode cX7_chunkAt 206 = .ok (.aload_n 0, 1) := by decide +kernel
theorem dX7_chunkAt_207 : decode cX7_chunkAt 207 = .ok (.getfield 38, 3) := by decide +kernel
theorem dX7_chunkAt_210 : decode cX7_chunkAt 210 = .ok (.ifCond .le 5, 3) := by decide +kernel
theorem dX7_chunkAt_213 : decode cX7_chunkAt 213 = .ok (.iload_n 1, 1) := by decide +kernel
theorem dX7_chunkAt_214 : decode cX7_chunkAt 214 = .ok (.ireturn, 1) := by decide +kernel
theorem dX7_chunkAt_215 : decode cX7_chunkAt 215 = .ok (.aload_n 0, 1) := by decide +kernel
theorem dX7_chunkAt_216 : decode cX7_chunkAt 216 = .ok (.getfield 171, 3) := by decide +kernel
theorem dX7_chunkAt_219 : decode cX7_chunkAt 219 = .ok (.sipush 1000, 3) := by decide +kernel
theorem dX7_chunkAt_222 : decode cX7_chunkAt 222 = .ok (.if_icmp .ge 79, 3) := by decide +kernel
theorem dX7_chunkAt_225 : decode cX7_chunkAt 225 = .ok (.aload_n 0, 1) := by decide +kernel
theorem dX7_chunkAt_226 : decode cX7_chunkAt 226 = .ok (.getfield 51, 3) := by decide +kernel
theorem dX7_chunkAt_229 : decode cX7_chunkAt 229 = .ok (.iconst 5, 1) := by decide +kernel
theorem dX7_chunkAt_230 : decode cX7_chunkAt 230 = .ok (.aload_n 0, 1) := by decide +kernel
theorem dX7_chunkAt_231 : decode cX7_chunkAt 231 = .ok (.getfield 171, 3) := by decide +kernel
theorem dX7_chunkAt_234 : decode cX7_chunkAt 234 = .ok (.imul, 1) := by decide +kernel
theorem dX7_chunkAt_235 : decode cX7_chunkAt 235 = .ok (.iload_n 2, 1) := by decide +kernel
theorem dX7_chunkAt_236 : decode cX7_chunkAt 236 = .ok (.iastore, 1) := by decide +kernel
theorem dX7_chunkAt_237 : decode cX7_chunkAt 237 = .ok (.aload_n 0, 1) := by decide +kernel
theorem dX7_chunkAt_238 : decode cX7_chunkAt 238 = .ok (.getfield 51, 3) := by decide +kernel
theorem dX7_chunkAt_241 : decode cX7_chunkAt 241 = .ok (.iconst 5, 1) := by decide +kernel
theorem dX7_chunkAt_242 : decode cX7_chunkAt 242 = .ok (.aload_n 0, 1) := by decide +kernel
theorem dX7_chunkAt_243 : decode cX7_chunkAt 243 = .ok (.getfield 171, 3) := by decide +kernel
theorem dX7_chunkAt_246 : decode cX7_chunkAt 246 = .ok (.imul, 1) := by decide +kernel
theorem dX7_chunkAt_247 : decode cX7_chunkAt 247 = .ok (.iconst 1, 1) := by decide +kernel
theorem dX7_chunkAt_248 : decode cX7_chunkAt 248 = .ok (.iadd, 1) := by decide +kernel
theorem dX7_chunkAt_249 : decode cX7_chunkAt 249 = .ok (.iload_n 1, 1) := by decide +kernel
theorem dX7_chunkAt_250 : decode cX7_chunkAt 250 = .ok (.iastore, 1) := by decide +kernel
theorem dX7_chunkAt_251 : decode cX7_chunkAt 251 = .ok (.aload_n 0, 1) := by decide +kernel
theorem dX7_chunkAt_252 : decode cX7_chunkAt 252 = .ok (.getfield 51, 3) := by decide +kernel
theorem dX7_chunkAt_255 : decode cX7_chunkAt 255 = .ok (.iconst 5, 1) := by decide +kernel
theorem dX7_chunkAt_256 : decode cX7_chunkAt 256 = .ok (.aload_n 0, 1) := by decide +kernel
theorem dX7_chunkAt_257 : decode cX7_chunkAt 257 = .ok (.getfield 171, 3) := by decide +kernel
theorem dX7_chunkAt_260 : decode cX7_chunkAt 260 = .ok (.imul, 1) := by decide +kernel
theorem dX7_chunkAt_261 : decode cX7_chunkAt 261 = .ok (.iconst 2, 1) := by decide +kernel
theorem dX7_chunkAt_262 : decode cX7_chunkAt 262 = .ok (.iadd, 1) := by decide +kernel
theorem dX7_chunkAt_263 : decode cX7_chunkAt 263 = .ok (.iload 4, 2) := by decide +kernel
theorem dX7_chunkAt_265 : decode cX7_chunkAt 265 = .ok (.iastore, 1) := by decide +kernel
theorem dX7_chunkAt_266 : decode cX7_chunkAt 266 = .ok (.aload_n 0, 1) := by decide +kernel
theorem dX7_chunkAt_267 : decode cX7_chunkAt 267 = .ok (.getfield 51, 3) := by decide +kernel
theorem dX7_chunkAt_270 : decode cX7_chunkAt 270 = .ok (.iconst 5, 1) := by decide +kernel
theorem dX7_chunkAt_271 : decode cX7_chunkAt 271 = .ok (.aload_n 0, 1) := by decide +kernel
theorem dX7_chunkAt_272 : decode cX7_chunkAt 272 = .ok (.getfield 171, 3) := by decide +kernel
theorem dX7_chunkAt_275 : decode cX7_chunkAt 275 = .ok (.imul, 1) := by decide +kernel
theorem dX7_chunkAt_276 : decode cX7_chunkAt 276 = .ok (.iconst 3, 1) := by decide +kernel
theorem dX7_chunkAt_277 : decode cX7_chunkAt 277 = .ok (.iadd, 1) := by decide +kernel
theorem dX7_chunkAt_278 : decode cX7_chunkAt 278 = .ok (.aload_n 0, 1) := by decide +kernel
theorem dX7_chunkAt_279 : decode cX7_chunkAt 279 = .ok (.getfield 119, 3) := by decide +kernel
theorem dX7_chunkAt_282 : decode cX7_chunkAt 282 = .ok (.iload 6, 2) := by decide +kernel
theorem dX7_chunkAt_284 : decode cX7_chunkAt 284 = .ok (.isub, 1) := by decide +kernel
theorem dX7_chunkAt_285 : decode cX7_chunkAt 285 = .ok (.iastore, 1) := by decide +kernel
theorem dX7_chunkAt_286 : decode cX7_chunkAt 286 = .ok (.aload_n 0, 1) := by decide +kernel
theorem dX7_chunkAt_287 : decode cX7_chunkAt 287 = .ok (.getfield 51, 3) := by decide +kernel
theorem dX7_chunkAt_290 : decode cX7_chunkAt 290 = .ok (.iconst 5, 1) := by decide +kernel
theorem dX7_chunkAt_291 : decode cX7_chunkAt 291 = .ok (.aload_n 0, 1) := by decide +kernel
theorem dX7_chunkAt_292 : decode cX7_chunkAt 292 = .ok (.getfield 171, 3) := by decide +kernel
theorem dX7_chunkAt_295 : decode cX7_chunkAt 295 = .ok (.imul, 1) := by decide +kernel
theorem dX7_chunkAt_296 : decode cX7_chunkAt 296 = .ok (.iconst 4, 1) := by decide +kernel
theorem dX7_chunkAt_297 : decode cX7_chunkAt 297 = .ok (.iadd, 1) := by decide +kernel
theorem dX7_chunkAt_298 : decode cX7_chunkAt 298 = .ok (.iload 6, 2) := by decide +kernel
theorem dX7_chunkAt_300 : decode cX7_chunkAt 300 = .ok (.iastore, 1) := by decide +kernel
theorem dX7_chunkAt_301 : decode cX7_chunkAt 301 = .ok (.aload_n 0, 1) := by decide +kernel
theorem dX7_chunkAt_302 : decode cX7_chunkAt 302 = .ok (.dup, 1) := by decide +kernel
theorem dX7_chunkAt_303 : decode cX7_chunkAt 303 = .ok (.getfield 171, 3) := by decide +kernel
theorem dX7_chunkAt_306 : decode cX7_chunkAt 306 = .ok (.iconst 1, 1) := by decide +kernel
theorem dX7_chunkAt_307 : decode cX7_chunkAt 307 = .ok (.iadd, 1) := by decide +kernel
theorem dX7_chunkAt_308 : decode cX7_chunkAt 308 = .ok (.putfield 171, 3) := by decide +kernel
theorem dX7_chunkAt_311 : decode cX7_chunkAt 311 = .ok (.aload_n 0, 1) := by decide +kernel
theorem dX7_chunkAt_312 : decode cX7_chunkAt 312 = .ok (.dup, 1) := by decide +kernel
theorem dX7_chunkAt_313 : decode cX7_chunkAt 313 = .ok (.getfield 174, 3) := by decide +kernel
theorem dX7_chunkAt_316 : decode cX7_chunkAt 316 = .ok (.iload_n 2, 1) := by decide +kernel
theorem dX7_chunkAt_317 : decode cX7_chunkAt 317 = .ok (.bipush 127, 2) := by decide +kernel
theorem dX7_chunkAt_319 : decode cX7_chunkAt 319 = .ok (.if_icmp .le 14, 3) := by decide +kernel
theorem dX7_chunkAt_322 : decode cX7_chunkAt 322 = .ok (.iload_n 2, 1) := by decide +kernel
theorem dX7_chunkAt_323 : decode cX7_chunkAt 323 = .ok (.sipush 255, 3) := by decide +kernel
theorem dX7_chunkAt_326 : decode cX7_chunkAt 326 = .ok (.if_icmp .ge 7, 3) := by decide +kernel
theorem dX7_chunkAt_329 : decode cX7_chunkAt 329 = .ok (.iconst 1, 1) := by decide +kernel
theorem dX7_chunkAt_330 : decode cX7_chunkAt 330 = .ok (.goto 4, 3) := by decide +kernel
theorem dX7_chunkAt_333 : decode cX7_chunkAt 333 = .ok (.iconst 0, 1) := by decide +kernel
theorem dX7_chunkAt_334 : decode cX7_chunkAt 334 = .ok (.iadd, 1) := by decide +kernel
theorem dX7_chunkAt_335 : decode cX7_chunkAt 335 = .ok (.putfield 174, 3) := by decide +kernel
theorem dX7_chunkAt_338 : decode cX7_chunkAt 338 = .ok (.iload 5, 2) := by decide +kernel
theorem dX7_chunkAt_340 : decode cX7_chunkAt 340 = .ok (.iload 4, 2) := by decide +kernel
theorem dX7_chunkAt_342 : decode cX7_chunkAt 342 = .ok (.iadd, 1) := by decide +kernel
theorem dX7_chunkAt_343 : decode cX7_chunkAt 343 = .ok (.ireturn, 1) := by decide +kernel
theorem dX7_bytesOf_0 : decode cX7_bytesOf 0 = .ok (.aload_n 0, 1) := by decide +kernel
theorem dX7_bytesOf_1 : decode cX7_bytesOf 1 = .ok (.getfield 119, 3) := by decide +kernel
theorem dX7_bytesOf_4 : decode cX7_bytesOf 4 = .ok (.istore 5, 2) := by decide +kernel
theorem dX7_bytesOf_6 : decode cX7_bytesOf 6 = .ok (.iload_n 2, 1) := by decide +kernel
theorem dX7_bytesOf_7 : decode cX7_bytesOf 7 = .ok (.ifCond .ne 171, 3) := by decide +kernel
theorem dX7_bytesOf_10 : decode cX7_bytesOf 10 = .ok (.iconst 0, 1) := by decide +kernel
theorem dX7_bytesOf_11 : decode cX7_bytesOf 11 = .ok (.istore 6, 2) := by decide +kernel
theorem dX7_bytesOf_13 : decode cX7_bytesOf 13 = .ok (.iload 6, 2) := by decide +kernel
theorem dX7_bytesOf_15 : decode cX7_bytesOf 15 = .ok (.iload 5, 2) := by decide +kernel
theorem dX7_bytesOf_17 : decode cX7_bytesOf 17 = .ok (.if_icmp .ge 23, 3) := by decide +kernel
theorem dX7_bytesOf_20 : decode cX7_bytesOf 20 = .ok (.aload_n 0, 1) := by decide +kernel
theorem dX7_bytesOf_21 : decode cX7_bytesOf 21 = .ok (.getfield 54, 3) := by decide +kernel
theorem dX7_bytesOf_24 : decode cX7_bytesOf 24 = .ok (.iload 6, 2) := by decide +kernel
theorem dX7_bytesOf_26 : decode cX7_bytesOf 26 = .ok (.aload_n 0, 1) := by decide +kernel
theorem dX7_bytesOf_27 : decode cX7_bytesOf 27 = .ok (.getfield 16, 3) := by decide +kernel
theorem dX7_bytesOf_30 : decode cX7_bytesOf 30 = .ok (.iload 6, 2) := by decide +kernel
theorem dX7_bytesOf_32 : decode cX7_bytesOf 32 = .ok (.baload, 1) := by decide +kernel
theorem dX7_bytesOf_33 : decode cX7_bytesOf 33 = .ok (.bastore, 1) := by decide +kernel
theorem dX7_bytesOf_34 : decode cX7_bytesOf 34 = .ok (.iinc 6 1, 3) := by decide +kernel
theorem dX7_bytesOf_37 : decode cX7_bytesOf 37 = .ok (.goto (-24), 3) := by decide +kernel
theorem dX7_bytesOf_40 : decode cX7_bytesOf 40 = .ok (.aload_n 0, 1) := by decide +kernel
theorem dX7_bytesOf_41 : decode cX7_bytesOf 41 = .ok (.iconst 0, 1) := by decide +kernel
theorem dX7_bytesOf_42 : decode cX7_bytesOf 42 = .ok (.putfield 119, 3) := by decide +kernel
theorem dX7_bytesOf_45 : decode cX7_bytesOf 45 = .ok (.aload_n 0, 1) := by decide +kernel
theorem dX7_bytesOf_46 : decode cX7_bytesOf 46 = .ok (.iload_n 3, 1) := by decide +kernel
theorem dX7_bytesOf_47 : decode cX7_bytesOf 47 = .ok (.iload 4, 2) := by decide +kernel
theorem dX7_bytesOf_49 : decode cX7_bytesOf 49 = .ok (.invokevirtual 141, 3) := by decide +kernel
theorem dX7_bytesOf_52 : decode cX7_bytesOf 52 = .ok (.aload_n 0, 1) := by decide +kernel
theorem dX7_bytesOf_53 : decode cX7_bytesOf 53 = .ok (.getfield 119, 3) := by decide +kernel
theorem dX7_bytesOf_56 : decode cX7_bytesOf 56 = .ok (.istore 6, 2) := by decide +kernel
theorem dX7_bytesOf_58 : decode cX7_bytesOf 58 = .ok (.aload_n 0, 1) := by decide +kernel
theorem dX7_bytesOf_59 : decode cX7_bytesOf 59 = .ok (.getfield 107, 3) := by decide +kernel
theorem dX7_bytesOf_62 : decode cX7_bytesOf 62 = .ok (.ifCond .le 19, 3) := by decide +kernel
theorem dX7_bytesOf_65 : decode cX7_bytesOf 65 = .ok (.aload_n 0, 1) := by decide +kernel
theorem dX7_bytesOf_66 : decode cX7_bytesOf 66 = .ok (.bipush 16, 2) := by decide +kernel
theorem dX7_bytesOf_68 : decode cX7_bytesOf 68 = .ok (.iload_n 1, 1) := by decide +kernel
theorem dX7_bytesOf_69 : decode cX7_bytesOf 69 = .ok (.aload_n 0, 1) := by decide +kernel
theorem dX7_bytesOf_70 : decode cX7_bytesOf 70 = .ok (.getfield 107, 3) := by decide +kernel
theorem dX7_bytesOf_73 : decode cX7_bytesOf 73 = .ok (.aload_n 0, 1) := by decide +kernel
theorem dX7_bytesOf_74 : decode cX7_bytesOf 74 = .ok (.getfield 110, 3) := by decide +kernel
theorem dX7_bytesOf_77 : decode cX7_bytesOf 77 = .ok (.invokevirtual 144, 3) := by decide +kernel
theorem dX7_bytesOf_80 : decode cX7_bytesOf 80 = .ok (.return_, 1) := by decide +kernel
theorem dX7_bytesOf_81 : decode cX7_bytesOf 81 = .ok (.iload 5, 2) := by decide +kernel
theorem dX7_bytesOf_83 : decode cX7_bytesOf 83 = .ok (.iload 6, 2) := by decide +kernel
theorem dX7_bytesOf_85 : decode cX7_bytesOf 85 = .ok (.iadd, 1) := by decide +kernel
theorem dX7_bytesOf_86 : decode cX7_bytesOf 86 = .ok (.sipush 20000, 3) := by decide +kernel
theorem dX7_bytesOf_89 : decode cX7_bytesOf 89 = .ok (.if_icmp .le 13, 3) := by decide +kernel
theorem dX7_bytesOf_92 : decode cX7_bytesOf 92 = .ok (.aload_n 0, 1) := by decide +kernel
theorem dX7_bytesOf_93 : decode cX7_bytesOf 93 = .ok (.bipush 17, 2) := by decide +kernel
theorem dX7_bytesOf_95 : decode cX7_bytesOf 95 = .ok (.iload_n 1, 1) := by decide +kernel
theorem dX7_bytesOf_96 : decode cX7_bytesOf 96 = .ok (.iconst 0, 1) := by decide +kernel
theorem dX7_bytesOf_97 : decode cX7_bytesOf 97 = .ok (.iconst (-1), 1) := by decide +kernel
theorem dX7_bytesOf_98 : decode cX7_bytesOf 98 = .ok (.invokevirtual 144, 3) := by decide +kernel
theorem dX7_bytesOf_101 : decode cX7_bytesOf 101 = .ok (.return_, 1) := by decide +kernel
theorem dX7_bytesOf_102 : decode cX7_bytesOf 102 = .ok (.iload 6, 2) := by decide +kernel
theorem dX7_bytesOf_104 : decode cX7_bytesOf 104 = .ok (.iconst 1, 1) := by decide +kernel
theorem dX7_bytesOf_105 : decode cX7_bytesOf 105 = .ok (.isub, 1) := by decide +kernel
theorem dX7_bytesOf_106 : decode cX7_bytesOf 106 = .ok (.istore 7, 2) := by decide +kernel
theorem dX7_bytesOf_108 : decode cX7_bytesOf 108 = .ok (.iload 7, 2) := by decide +kernel
theorem dX7_bytesOf_110 : decode cX7_bytesOf 110 = .ok (.ifCond .lt 26, 3) := by decide +kernel
theorem dX7_bytesOf_113 : decode cX7_bytesOf 113 = .ok (.aload_n 0, 1) := by decide +kernel
theorem dX7_bytesOf_114 : decode cX7_bytesOf 114 = .ok (.getfield 16, 3) := by decide +kernel
theorem dX7_bytesOf_117 : decode cX7_bytesOf 117 = .ok (.iload 5, 2) := by decide +kernel
theorem dX7_bytesOf_119 : decode cX7_bytesOf 119 = .ok (.iload 7, 2) := by decide +kernel
theorem dX7_bytesOf_121 : decode cX7_bytesOf 121 = .ok (.iadd, 1) := by decide +kernel
theorem dX7_bytesOf_122 : decode cX7_bytesOf 122 = .ok (.aload_n 0, 1) := by decide +kernel
theorem dX7_bytesOf_123 : decode cX7_bytesOf 123 = .ok (.getfield 16, 3) := by decide +kernel
theorem dX7_bytesOf_126 : decode cX7_bytesOf 126 = .ok (.iload 7, 2) := by decide +kernel
theorem dX7_bytesOf_128 : decode cX7_bytesOf 128 = .ok (.baload, 1) := by decide +kernel
theorem dX7_bytesOf_129 : decode cX7_bytesOf 129 = .ok (.bastore, 1) := by decide +kernel
theorem dX7_bytesOf_130 : decode cX7_bytesOf 130 = .ok (.iinc 7 (-1), 3) := by decide +kernel
theorem dX7_bytesOf_133 : decode cX7_bytesOf 133 = .ok (.goto (-25), 3) := by decide +kernel
theorem dX7_bytesOf_136 : decode cX7_bytesOf 136 = .ok (.iconst 0, 1) := by decide +kernel
theorem dX7_bytesOf_137 : decode cX7_bytesOf 137 = .ok (.istore 7, 2) := by decide +kernel
theorem dX7_bytesOf_139 : decode cX7_bytesOf 139 = .ok (.iload 7, 2) := by decide +kernel
theorem dX7_bytesOf_141 : decode cX7_bytesOf 141 = .ok (.iload 5, 2) := by decide +kernel
theorem dX7_bytesOf_143 : decode cX7_bytesOf 143 = .ok (.if_icmp .ge 23, 3) := by decide +kernel
theorem dX7_bytesOf_146 : decode cX7_bytesOf 146 = .ok (.aload_n 0, 1) := by decide +kernel
theorem dX7_bytesOf_147 : decode cX7_bytesOf 147 = .ok (.getfield 16, 3) := by decide +kernel
theorem dX7_bytesOf_150 : decode cX7_bytesOf 150 = .ok (.iload 7, 2) := by decide +kernel
theorem dX7_bytesOf_152 : decode cX7_bytesOf 152 = .ok (.aload_n 0, 1) := by decide +kernel
theorem dX7_bytesOf_153 : decode cX7_bytesOf 153 = .ok (.getfield 54, 3) := by decide +kernel
theorem dX7_bytesOf_156 : decode cX7_bytesOf 156 = .ok (.iload 7, 2) := by decide +kernel
theorem dX7_bytesOf_158 : decode cX7_bytesOf 158 = .ok (.baload, 1) := by decide +kernel
theorem dX7_bytesOf_159 : decode cX7_bytesOf 159 = .ok (.bastore, 1) := by decide +kernel
theorem dX7_bytesOf_160 : decode cX7_bytesOf 160 = .ok (.iinc 7 1, 3) := by decide +kernel
theorem dX7_bytesOf_163 : decode cX7_bytesOf 163 = .ok (.goto (-24), 3) := by decide +kernel
theorem dX7_bytesOf_166 : decode cX7_bytesOf 166 = .ok (.aload_n 0, 1) := by decide +kernel
theorem dX7_bytesOf_167 : decode cX7_bytesOf 167 = .ok (.iload 5, 2) := by decide +kernel
theorem dX7_bytesOf_169 : decode cX7_bytesOf 169 = .ok (.iload 6, 2) := by decide +kernel
theorem dX7_bytesOf_171 : decode cX7_bytesOf 171 = .ok (.iadd, 1) := by decide +kernel
theorem dX7_bytesOf_172 : decode cX7_bytesOf 172 = .ok (.putfield 119, 3) := by decide +kernel
theorem dX7_bytesOf_175 : decode cX7_bytesOf 175 = .ok (.goto 68, 3) := by decide +kernel
theorem dX7_bytesOf_178 : decode cX7_bytesOf 178 = .ok (.iload 5, 2) := by decide +kernel
theorem dX7_bytesOf_180 : decode cX7_bytesOf 180 = .ok (.iload 4, 2) := by decide +kernel
theorem dX7_bytesOf_182 : decode cX7_bytesOf 182 = .ok (.iadd, 1) := by decide +kernel
theorem dX7_bytesOf_183 : decode cX7_bytesOf 183 = .ok (.iload_n 3, 1) := by decide +kernel
theorem dX7_bytesOf_184 : decode cX7_bytesOf 184 = .ok (.isub, 1) := by decide +kernel
theorem dX7_bytesOf_185 : decode cX7_bytesOf 185 = .ok (.sipush 20000, 3) := by decide +kernel
theorem dX7_bytesOf_188 : decode cX7_bytesOf 188 = .ok (.if_icmp .le 13, 3) := by decide +kernel
theorem dX7_bytesOf_191 : decode cX7_bytesOf 191 = .ok (.aload_n 0, 1) := by decide +kernel
theorem dX7_bytesOf_192 : decode cX7_bytesOf 192 = .ok (.bipush 17, 2) := by decide +kernel
theorem dX7_bytesOf_194 : decode cX7_bytesOf 194 = .ok (.iload_n 1, 1) := by decide +kernel
theorem dX7_bytesOf_195 : decode cX7_bytesOf 195 = .ok (.iconst 0, 1) := by decide +kernel
theorem dX7_bytesOf_196 : decode cX7_bytesOf 196 = .ok (.iconst (-1), 1) := by decide +kernel
theorem dX7_bytesOf_197 : decode cX7_bytesOf 197 = .ok (.invokevirtual 144, 3) := by decide +kernel
theorem dX7_bytesOf_200 : decode cX7_bytesOf 200 = .ok (.return_, 1) := by decide +kernel
theorem dX7_bytesOf_201 : decode cX7_bytesOf 201 = .ok (.iload_n 3, 1) := by decide +kernel
theorem dX7_bytesOf_202 : decode cX7_bytesOf 202 = .ok (.istore 6, 2) := by decide +kernel
theorem dX7_bytesOf_204 : decode cX7_bytesOf 204 = .ok (.iload 6, 2) := by decide +kernel
theorem dX7_bytesOf_206 : decode cX7_bytesOf 206 = .ok (.iload 4, 2) := by decide +kernel
theorem dX7_bytesOf_208 : decode cX7_bytesOf 208 = .ok (.if_icmp .ge 35, 3) := by decide +kernel
theorem dX7_bytesOf_211 : decode cX7_bytesOf 211 = .ok (.aload_n 0, 1) := by decide +kernel
theorem dX7_bytesOf_212 : decode cX7_bytesOf 212 = .ok (.getfield 16, 3) := by decide +kernel
theorem dX7_bytesOf_215 : decode cX7_bytesOf 215 = .ok (.aload_n 0, 1) := by decide +kernel
theorem dX7_bytesOf_216 : decode cX7_bytesOf 216 = .ok (.getfield 119, 3) := by decide +kernel
theorem dX7_bytesOf_219 : decode cX7_bytesOf 219 = .ok (.aload_n 0, 1) := by decide +kernel
theorem dX7_bytesOf_220 : decode cX7_bytesOf 220 = .ok (.getfield 7, 3) := by decide +kernel
theorem dX7_bytesOf_223 : decode cX7_bytesOf 223 = .ok (.iload 6, 2) := by decide +kernel
theorem dX7_bytesOf_225 : decode cX7_bytesOf 225 = .ok (.baload, 1) := by decide +kernel
theorem dX7_bytesOf_226 : decode cX7_bytesOf 226 = .ok (.bastore, 1) := by decide +kernel
theorem dX7_bytesOf_227 : decode cX7_bytesOf 227 = .ok (.aload_n 0, 1) := by decide +kernel
theorem dX7_bytesOf_228 : decode cX7_bytesOf 228 = .ok (.dup, 1) := by decide +kernel
theorem dX7_bytesOf_229 : decode cX7_bytesOf 229 = .ok (.getfield 119, 3) := by decide +kernel
theorem dX7_bytesOf_232 : decode cX7_bytesOf 232 = .ok (.iconst 1, 1) := by decide +kernel
theorem dX7_bytesOf_233 : decode cX7_bytesOf 233 = .ok (.iadd, 1) := by decide +kernel
theorem dX7_bytesOf_234 : decode cX7_bytesOf 234 = .ok (.putfield 119, 3) := by decide +kernel
theorem dX7_bytesOf_237 : decode cX7_bytesOf 237 = .ok (.iinc 6 1, 3) := by decide +kernel
theorem dX7_bytesOf_240 : decode cX7_bytesOf 240 = .ok (.goto (-36), 3) := by decide +kernel
theorem dX7_bytesOf_243 : decode cX7_bytesOf 243 = .ok (.aload_n 0, 1) := by decide +kernel
theorem dX7_bytesOf_244 : decode cX7_bytesOf 244 = .ok (.aload_n 0, 1) := by decide +kernel
theorem dX7_bytesOf_245 : decode cX7_bytesOf 245 = .ok (.aload_n 0, 1) := by decide +kernel
theorem dX7_bytesOf_246 : decode cX7_bytesOf 246 = .ok (.getfield 16, 3) := by decide +kernel
theorem dX7_bytesOf_249 : decode cX7_bytesOf 249 = .ok (.iload 5, 2) := by decide +kernel
theorem dX7_bytesOf_251 : decode cX7_bytesOf 251 = .ok (.aload_n 0, 1) := by decide +kernel
theorem dX7_bytesOf_252 : decode cX7_bytesOf 252 = .ok (.getfield 119, 3) := by decide +kernel
theorem dX7_bytesOf_255 : decode cX7_bytesOf 255 = .ok (.invokevirtual 161, 3) := by decide +kernel
theorem dX7_bytesOf_258 : decode cX7_bytesOf 258 = .ok (.invokevirtual 165, 3) := by decide +kernel
theorem dX7_bytesOf_261 : decode cX7_bytesOf 261 = .ok (.aload_n 0, 1) := by decide +kernel
theorem dX7_bytesOf_262 : decode cX7_bytesOf 262 = .ok (.iload_n 1, 1) := by decide +kernel
theorem dX7_bytesOf_263 : decode cX7_bytesOf 263 = .ok (.iconst 4, 1) := by decide +kernel
theorem dX7_bytesOf_264 : decode cX7_bytesOf 264 = .ok (.iadd, 1) := by decide +kernel
theorem dX7_bytesOf_265 : decode cX7_bytesOf 265 = .ok (.invokevirtual 187, 3) := by decide +kernel
theorem dX7_bytesOf_268 : decode cX7_bytesOf 268 = .ok (.if_icmp .eq 12, 3) := by decide +kernel
theorem dX7_bytesOf_271 : decode cX7_bytesOf 271 = .ok (.aload_n 0, 1) := by decide +kernel
theorem dX7_bytesOf_272 : decode cX7_bytesOf 272 = .ok (.bipush 18, 2) := by decide +kernel
theorem dX7_bytesOf_274 : decode cX7_bytesOf 274 = .ok (.iload_n 1, 1) := by decide +kernel
theorem dX7_bytesOf_275 : decode cX7_bytesOf 275 = .ok (.iconst 0, 1) := by decide +kernel
theorem dX7_bytesOf_276 : decode cX7_bytesOf 276 = .ok (.iconst (-1), 1) := by decide +kernel
theorem dX7_bytesOf_277 : decode cX7_bytesOf 277 = .ok (.invokevirtual 144, 3) := by decide +kernel
theorem dX7_bytesOf_280 : decode cX7_bytesOf 280 = .ok (.return_, 1) := by decide +kernel
theorem dX7_add_0 : decode cX7_add 0 = .ok (.aload_n 0, 1) := by decide +kernel
theorem dX7_add_1 : decode cX7_add 1 = .ok (.getfield 119, 3) := by decide +kernel
theorem dX7_add_4 : decode cX7_add 4 = .ok (.sipush 24000, 3) := by decide +kernel
theorem dX7_add_7 : decode cX7_add 7 = .ok (.if_icmp .ne 9, 3) := by decide +kernel
theorem dX7_add_10 : decode cX7_add 10 = .ok (.aload_n 0, 1) := by decide +kernel
theorem dX7_add_11 : decode cX7_add 11 = .ok (.iconst 1, 1) := by decide +kernel
theorem dX7_add_12 : decode cX7_add 12 = .ok (.putfield 190, 3) := by decide +kernel
theorem dX7_add_15 : decode cX7_add 15 = .ok (.return_, 1) := by decide +kernel
theorem dX7_add_16 : decode cX7_add 16 = .ok (.aload_n 0, 1) := by decide +kernel
theorem dX7_add_17 : decode cX7_add 17 = .ok (.getfield 16, 3) := by decide +kernel
theorem dX7_add_20 : decode cX7_add 20 = .ok (.aload_n 0, 1) := by decide +kernel
theorem dX7_add_21 : decode cX7_add 21 = .ok (.getfield 119, 3) := by decide +kernel
theorem dX7_add_24 : decode cX7_add 24 = .ok (.iload_n 1, 1) := by decide +kernel
theorem dX7_add_25 : decode cX7_add 25 = .ok (.i2b, 1) := by decide +kernel
theorem dX7_add_26 : decode cX7_add 26 = .ok (.bastore, 1) := by decide +kernel
theorem dX7_add_27 : decode cX7_add 27 = .ok (.aload_n 0, 1) := by decide +kernel
theorem dX7_add_28 : decode cX7_add 28 = .ok (.dup, 1) := by decide +kernel
theorem dX7_add_29 : decode cX7_add 29 = .ok (.getfield 119, 3) := by decide +kernel
theorem dX7_add_32 : decode cX7_add 32 = .ok (.iconst 1, 1) := by decide +kernel
theorem dX7_add_33 : decode cX7_add 33 = .ok (.iadd, 1) := by decide +kernel
theorem dX7_add_34 : decode cX7_add 34 = .ok (.putfield 119, 3) := by decide +kernel
theorem dX7_add_37 : decode cX7_add 37 = .ok (.return_, 1) := by decide +kernel
theorem dX7_stream_0 : decode cX7_stream 0 = .ok (.aload_n 0, 1) := by decide +kernel
theorem dX7_stream_1 : decode cX7_stream 1 = .ok (.iconst 0, 1) := by decide +kernel
theorem dX7_stream_2 : decode cX7_stream 2 = .ok (.putfield 58, 3) := by decide +kernel
theorem dX7_stream_5 : decode cX7_stream 5 = .ok (.iload_n 1, 1) := by decide +kernel
theorem dX7_stream_6 : decode cX7_stream 6 = .ok (.iconst 1, 1) := by decide +kernel
theorem dX7_stream_7 : decode cX7_stream 7 = .ok (.if_icmp .lt 10, 3) := by decide +kernel
theorem dX7_stream_10 : decode cX7_stream 10 = .ok (.iload_n 1, 1) := by decide +kernel
theorem dX7_stream_11 : decode cX7_stream 11 = .ok (.sipush 20000, 3) := by decide +kernel
theorem dX7_stream_14 : decode cX7_stream 14 = .ok (.if_icmp .le 5, 3) := by decide +kernel
theorem dX7_stream_17 : decode cX7_stream 17 = .ok (.iconst (-1), 1) := by decide +kernel
theorem dX7_stream_18 : decode cX7_stream 18 = .ok (.ireturn, 1) := by decide +kernel
theorem dX7_stream_19 : decode cX7_stream 19 = .ok (.aload_n 0, 1) := by decide +kernel
theorem dX7_stream_20 : decode cX7_stream 20 = .ok (.iconst 0, 1) := by decide +kernel
theorem dX7_stream_21 : decode cX7_stream 21 = .ok (.putfield 119, 3) := by decide +kernel
theorem dX7_stream_24 : decode cX7_stream 24 = .ok (.aload_n 0, 1) := by decide +kernel
theorem dX7_stream_25 : decode cX7_stream 25 = .ok (.iconst 0, 1) := by decide +kernel
theorem dX7_stream_26 : decode cX7_stream 26 = .ok (.putfield 190, 3) := by decide +kernel
theorem dX7_stream_29 : decode cX7_stream 29 = .ok (.aload_n 0, 1) := by decide +kernel
theorem dX7_stream_30 : decode cX7_stream 30 = .ok (.sipush 255, 3) := by decide +kernel
theorem dX7_stream_33 : decode cX7_stream 33 = .ok (.invokevirtual 194, 3) := by decide +kernel
theorem dX7_stream_36 : decode cX7_stream 36 = .ok (.aload_n 0, 1) := by decide +kernel
theorem dX7_stream_37 : decode cX7_stream 37 = .ok (.bipush 6, 2) := by decide +kernel
theorem dX7_stream_39 : decode cX7_stream 39 = .ok (.invokevirtual 194, 3) := by decide +kernel
theorem dX7_stream_42 : decode cX7_stream 42 = .ok (.aload_n 0, 1) := by decide +kernel
theorem dX7_stream_43 : decode cX7_stream 43 = .ok (.iconst 0, 1) := by decide +kernel
theorem dX7_stream_44 : decode cX7_stream 44 = .ok (.invokevirtual 194, 3) := by decide +kernel
theorem dX7_stream_47 : decode cX7_stream 47 = .ok (.aload_n 0, 1) := by decide +kernel
theorem dX7_stream_48 : decode cX7_stream 48 = .ok (.iconst 0, 1) := by decide +kernel
theorem dX7_stream_49 : decode cX7_stream 49 = .ok (.invokevirtual 194, 3) := by decide +kernel
theorem dX7_stream_52 : decode cX7_stream 52 = .ok (.iconst 0, 1) := by decide +kernel
theorem dX7_stream_53 : decode cX7_stream 53 = .ok (.istore_n 2, 1) := by decide +kernel
theorem dX7_stream_54 : decode cX7_stream 54 = .ok (.iload_n 2, 1) := by decide +kernel
theorem dX7_stream_55 : decode cX7_stream 55 = .ok (.bipush 6, 2) := by decide +kernel
theorem dX7_stream_57 : decode cX7_stream 57 = .ok (.if_icmp .ge 18, 3) := by decide +kernel
theorem dX7_stream_60 : decode cX7_stream 60 = .ok (.aload_n 0, 1) := by decide +kernel
theorem dX7_stream_61 : decode cX7_stream 61 = .ok (.aload_n 0, 1) := by decide +kernel
theorem dX7_stream_62 : decode cX7_stream 62 = .ok (.iload_n 2, 1) := by decide +kernel
theorem dX7_stream_63 : decode cX7_stream 63 = .ok (.invokevirtual 168, 3) := by decide +kernel
theorem dX7_stream_66 : decode cX7_stream 66 = .ok (.invokevirtual 194, 3) := by decide +kernel
theorem dX7_stream_69 : decode cX7_stream 69 = .ok (.iinc 2 1, 3) := by decide +kernel
theorem dX7_stream_72 : decode cX7_stream 72 = .ok (.goto (-18), 3) := by decide +kernel
theorem dX7_stream_75 : decode cX7_stream 75 = .ok (.iconst 0, 1) := by decide +kernel
theorem dX7_stream_76 : decode cX7_stream 76 = .ok (.istore_n 2, 1) := by decide +kernel
theorem dX7_stream_77 : decode cX7_stream 77 = .ok (.iload_n 2, 1) := by decide +kernel
theorem dX7_stream_78 : decode cX7_stream 78 = .ok (.aload_n 0, 1) := by decide +kernel
theorem dX7_stream_79 : decode cX7_stream 79 = .ok (.getfield 61, 3) := by decide +kernel
theorem dX7_stream_82 : decode cX7_stream 82 = .ok (.if_icmp .ge 42, 3) := by decide +kernel
theorem dX7_stream_85 : decode cX7_stream 85 = .ok (.aload_n 0, 1) := by decide +kernel
theorem dX7_stream_86 : decode cX7_stream 86 = .ok (.getfield 190, 3) := by decide +kernel
theorem dX7_stream_89 : decode cX7_stream 89 = .ok (.ifCond .ne 35, 3) := by decide +kernel
theorem dX7_stream_92 : decode cX7_stream 92 = .ok (.aload_n 0, 1) := by decide +kernel
theorem dX7_stream_93 : decode cX7_stream 93 = .ok (.iload_n 2, 1) := by decide +kernel
theorem dX7_stream_94 : decode cX7_stream 94 = .ok (.aload_n 0, 1) := by decide +kernel
theorem dX7_stream_95 : decode cX7_stream 95 = .ok (.getfield 61, 3) := by decide +kernel
theorem dX7_stream_98 : decode cX7_stream 98 = .ok (.iload_n 2, 1) := by decide +kernel
theorem dX7_stream_99 : decode cX7_stream 99 = .ok (.isub, 1) := by decide +kernel
theorem dX7_stream_100 : decode cX7_stream 100 = .ok (.iload_n 1, 1) := by decide +kernel
theorem dX7_stream_101 : decode cX7_stream 101 = .ok (.if_icmp .ge 10, 3) := by decide +kernel
theorem dX7_stream_104 : decode cX7_stream 104 = .ok (.aload_n 0, 1) := by decide +kernel
theorem dX7_stream_105 : decode cX7_stream 105 = .ok (.getfield 61, 3) := by decide +kernel
theorem dX7_stream_108 : decode cX7_stream 108 = .ok (.goto 6, 3) := by decide +kernel
theorem dX7_stream_111 : decode cX7_stream 111 = .ok (.iload_n 2, 1) := by decide +kernel
theorem dX7_stream_112 : decode cX7_stream 112 = .ok (.iload_n 1, 1) := by decide +kernel
theorem dX7_stream_113 : decode cX7_stream 113 = .ok (.iadd, 1) := by decide +kernel
theorem dX7_stream_114 : decode cX7_stream 114 = .ok (.invokevirtual 197, 3) := by decide +kernel
theorem dX7_stream_117 : decode cX7_stream 117 = .ok (.iload_n 2, 1) := by decide +kernel
theorem dX7_stream_118 : decode cX7_stream 118 = .ok (.iload_n 1, 1) := by decide +kernel
theorem dX7_stream_119 : decode cX7_stream 119 = .ok (.iadd, 1) := by decide +kernel
theorem dX7_stream_120 : decode cX7_stream 120 = .ok (.istore_n 2, 1) := by decide +kernel
theorem dX7_stream_121 : decode cX7_stream 121 = .ok (.goto (-44), 3) := by decide +kernel
theorem dX7_stream_124 : decode cX7_stream 124 = .ok (.aload_n 0, 1) := by decide +kernel
theorem dX7_stream_125 : decode cX7_stream 125 = .ok (.getfield 190, 3) := by decide +kernel
theorem dX7_stream_128 : decode cX7_stream 128 = .ok (.ifCond .eq 5, 3) := by decide +kernel
theorem dX7_stream_131 : decode cX7_stream 131 = .ok (.iconst (-1), 1) := by decide +kernel
theorem dX7_stream_132 : decode cX7_stream 132 = .ok (.ireturn, 1) := by decide +kernel
theorem dX7_stream_133 : decode cX7_stream 133 = .ok (.aload_n 0, 1) := by decide +kernel
theorem dX7_stream_134 : decode cX7_stream 134 = .ok (.aload_n 0, 1) := by decide +kernel
theorem dX7_stream_135 : decode cX7_stream 135 = .ok (.getfield 16, 3) := by decide +kernel
theorem dX7_stream_138 : decode cX7_stream 138 = .ok (.aload_n 0, 1) := by decide +kernel
theorem dX7_stream_139 : decode cX7_stream 139 = .ok (.getfield 119, 3) := by decide +kernel
theorem dX7_stream_142 : decode cX7_stream 142 = .ok (.invokevirtual 103, 3) := by decide +kernel
theorem dX7_stream_145 : decode cX7_stream 145 = .ok (.aload_n 0, 1) := by decide +kernel
theorem dX7_stream_146 : decode cX7_stream 146 = .ok (.getfield 68, 3) := by decide +kernel
theorem dX7_stream_149 : decode cX7_stream 149 = .ok (.ireturn, 1) := by decide +kernel
theorem dX7_piece_0 : decode cX7_piece 0 = .ok (.iload_n 2, 1) := by decide +kernel
theorem dX7_piece_1 : decode cX7_piece 1 = .ok (.iload_n 1, 1) := by decide +kernel
theorem dX7_piece_2 : decode cX7_piece 2 = .ok (.isub, 1) := by decide +kernel
theorem dX7_piece_3 : decode cX7_piece 3 = .ok (.istore_n 3, 1) := by decide +kernel
theorem dX7_piece_4 : decode cX7_piece 4 = .ok (.aload_n 0, 1) := by decide +kernel
theorem dX7_piece_5 : decode cX7_piece 5 = .ok (.iconst 0, 1) := by decide +kernel
theorem dX7_piece_6 : decode cX7_piece 6 = .ok (.putfield 76, 3) := by decide +kernel
theorem dX7_piece_9 : decode cX7_piece 9 = .ok (.aload_n 0, 1) := by decide +kernel
theorem dX7_piece_10 : decode cX7_piece 10 = .ok (.iload_n 1, 1) := by decide +kernel
theorem dX7_piece_11 : decode cX7_piece 11 = .ok (.iload_n 2, 1) := by decide +kernel
theorem dX7_piece_12 : decode cX7_piece 12 = .ok (.invokevirtual 100, 3) := by decide +kernel
theorem dX7_piece_15 : decode cX7_piece 15 = .ok (.aload_n 0, 1) := by decide +kernel
theorem dX7_piece_16 : decode cX7_piece 16 = .ok (.getfield 76, 3) := by decide +kernel
theorem dX7_piece_19 : decode cX7_piece 19 = .ok (.iload_n 3, 1) := by decide +kernel
theorem dX7_piece_20 : decode cX7_piece 20 = .ok (.iload_n 3, 1) := by decide +kernel
theorem dX7_piece_21 : decode cX7_piece 21 = .ok (.bipush 8, 2) := by decide +kernel
theorem dX7_piece_23 : decode cX7_piece 23 = .ok (.idiv, 1) := by decide +kernel
theorem dX7_piece_24 : decode cX7_piece 24 = .ok (.isub, 1) := by decide +kernel
theorem dX7_piece_25 : decode cX7_piece 25 = .ok (.if_icmp .ge 7, 3) := by decide +kernel
theorem dX7_piece_28 : decode cX7_piece 28 = .ok (.iconst 1, 1) := by decide +kernel
theorem dX7_piece_29 : decode cX7_piece 29 = .ok (.goto 4, 3) := by decide +kernel
theorem dX7_piece_32 : decode cX7_piece 32 = .ok (.iconst 0, 1) := by decide +kernel
theorem dX7_piece_33 : decode cX7_piece 33 = .ok (.istore 4, 2) := by decide +kernel
theorem dX7_piece_35 : decode cX7_piece 35 = .ok (.iconst 4, 1) := by decide +kernel
theorem dX7_piece_36 : decode cX7_piece 36 = .ok (.iload 4, 2) := by decide +kernel
theorem dX7_piece_38 : decode cX7_piece 38 = .ok (.ifCond .eq 10, 3) := by decide +kernel
theorem dX7_piece_41 : decode cX7_piece 41 = .ok (.aload_n 0, 1) := by decide +kernel
theorem dX7_piece_42 : decode cX7_piece 42 = .ok (.getfield 76, 3) := by decide +kernel
theorem dX7_piece_45 : decode cX7_piece 45 = .ok (.goto 4, 3) := by decide +kernel
theorem dX7_piece_48 : decode cX7_piece 48 = .ok (.iload_n 3, 1) := by decide +kernel
theorem dX7_piece_49 : decode cX7_piece 49 = .ok (.iadd, 1) := by decide +kernel
theorem dX7_piece_50 : decode cX7_piece 50 = .ok (.istore 5, 2) := by decide +kernel
theorem dX7_piece_52 : decode cX7_piece 52 = .ok (.aload_n 0, 1) := by decide +kernel
theorem dX7_piece_53 : decode cX7_piece 53 = .ok (.aload_n 0, 1) := by decide +kernel
theorem dX7_piece_54 : decode cX7_piece 54 = .ok (.aload_n 0, 1) := by decide +kernel
theorem dX7_piece_55 : decode cX7_piece 55 = .ok (.getfield 7, 3) := by decide +kernel
theorem dX7_piece_58 : decode cX7_piece 58 = .ok (.iload_n 1, 1) := by decide +kernel
theorem dX7_piece_59 : decode cX7_piece 59 = .ok (.iload_n 2, 1) := by decide +kernel
theorem dX7_piece_60 : decode cX7_piece 60 = .ok (.invokevirtual 161, 3) := by decide +kernel
theorem dX7_piece_63 : decode cX7_piece 63 = .ok (.invokevirtual 165, 3) := by decide +kernel
theorem dX7_piece_66 : decode cX7_piece 66 = .ok (.istore 6, 2) := by decide +kernel
theorem dX7_piece_68 : decode cX7_piece 68 = .ok (.aload_n 0, 1) := by decide +kernel
theorem dX7_piece_69 : decode cX7_piece 69 = .ok (.iload 4, 2) := by decide +kernel
theorem dX7_piece_71 : decode cX7_piece 71 = .ok (.ifCond .eq 7, 3) := by decide +kernel
theorem dX7_piece_74 : decode cX7_piece 74 = .ok (.iconst 0, 1) := by decide +kernel
theorem dX7_piece_75 : decode cX7_piece 75 = .ok (.goto 4, 3) := by decide +kernel
theorem dX7_piece_78 : decode cX7_piece 78 = .ok (.iconst 1, 1) := by decide +kernel
theorem dX7_piece_79 : decode cX7_piece 79 = .ok (.invokevirtual 194, 3) := by decide +kernel
theorem dX7_piece_82 : decode cX7_piece 82 = .ok (.aload_n 0, 1) := by decide +kernel
theorem dX7_piece_83 : decode cX7_piece 83 = .ok (.iload 5, 2) := by decide +kernel
theorem dX7_piece_85 : decode cX7_piece 85 = .ok (.sipush 255, 3) := by decide +kernel
theorem dX7_piece_88 : decode cX7_piece 88 = .ok (.iand, 1) := by decide +kernel
theorem dX7_piece_89 : decode cX7_piece 89 = .ok (.invokevirtual 194, 3) := by decide +kernel
theorem dX7_piece_92 : decode cX7_piece 92 = .ok (.aload_n 0, 1) := by decide +kernel
theorem dX7_piece_93 : decode cX7_piece 93 = .ok (.iload 5, 2) := by decide +kernel
theorem dX7_piece_95 : decode cX7_piece 95 = .ok (.bipush 8, 2) := by decide +kernel
theorem dX7_piece_97 : decode cX7_piece 97 = .ok (.ishr, 1) := by decide +kernel
theorem dX7_piece_98 : decode cX7_piece 98 = .ok (.sipush 255, 3) := by decide +kernel
theorem dX7_piece_101 : decode cX7_piece 101 = .ok (.iand, 1) := by decide +kernel
theorem dX7_piece_102 : decode cX7_piece 102 = .ok (.invokevirtual 194, 3) := by decide +kernel
theorem dX7_piece_105 : decode cX7_piece 105 = .ok (.aload_n 0, 1) := by decide +kernel
theorem dX7_piece_106 : decode cX7_piece 106 = .ok (.iload 5, 2) := by decide +kernel
theorem dX7_piece_108 : decode cX7_piece 108 = .ok (.bipush 16, 2) := by decide +kernel
theorem dX7_piece_110 : decode cX7_piece 110 = .ok (.ishr, 1) := by decide +kernel
theorem dX7_piece_111 : decode cX7_piece 111 = .ok (.invokevirtual 194, 3) := by decide +kernel
theorem dX7_piece_114 : decode cX7_piece 114 = .ok (.iconst 0, 1) := by decide +kernel
theorem dX7_piece_115 : decode cX7_piece 115 = .ok (.istore 7, 2) := by decide +kernel
theorem dX7_piece_117 : decode cX7_piece 117 = .ok (.iload 7, 2) := by decide +kernel
theorem dX7_piece_119 : decode cX7_piece 119 = .ok (.iconst 4, 1) := by decide +kernel
theorem dX7_piece_120 : decode cX7_piece 120 = .ok (.if_icmp .ge 25, 3) := by decide +kernel
theorem dX7_piece_123 : decode cX7_piece 123 = .ok (.aload_n 0, 1) := by decide +kernel
theorem dX7_piece_124 : decode cX7_piece 124 = .ok (.iload 6, 2) := by decide +kernel
theorem dX7_piece_126 : decode cX7_piece 126 = .ok (.bipush 8, 2) := by decide +kernel
theorem dX7_piece_128 : decode cX7_piece 128 = .ok (.iload 7, 2) := by decide +kernel
theorem dX7_piece_130 : decode cX7_piece 130 = .ok (.imul, 1) := by decide +kernel
theorem dX7_piece_131 : decode cX7_piece 131 = .ok (.ishr, 1) := by decide +kernel
theorem dX7_piece_132 : decode cX7_piece 132 = .ok (.sipush 255, 3) := by decide +kernel
theorem dX7_piece_135 : decode cX7_piece 135 = .ok (.iand, 1) := by decide +kernel
theorem dX7_piece_136 : decode cX7_piece 136 = .ok (.invokevirtual 194, 3) := by decide +kernel
theorem dX7_piece_139 : decode cX7_piece 139 = .ok (.iinc 7 1, 3) := by decide +kernel
theorem dX7_piece_142 : decode cX7_piece 142 = .ok (.goto (-25), 3) := by decide +kernel
theorem dX7_piece_145 : decode cX7_piece 145 = .ok (.iload 4, 2) := by decide +kernel
theorem dX7_piece_147 : decode cX7_piece 147 = .ok (.ifCond .eq 35, 3) := by decide +kernel
theorem dX7_piece_150 : decode cX7_piece 150 = .ok (.iconst 0, 1) := by decide +kernel
theorem dX7_piece_151 : decode cX7_piece 151 = .ok (.istore 7, 2) := by decide +kernel
theorem dX7_piece_153 : decode cX7_piece 153 = .ok (.iload 7, 2) := by decide +kernel
theorem dX7_piece_155 : decode cX7_piece 155 = .ok (.aload_n 0, 1) := by decide +kernel
theorem dX7_piece_156 : decode cX7_piece 156 = .ok (.getfield 76, 3) := by decide +kernel
theorem dX7_piece_159 : decode cX7_piece 159 = .ok (.if_icmp .ge 20, 3) := by decide +kernel
theorem dX7_piece_162 : decode cX7_piece 162 = .ok (.aload_n 0, 1) := by decide +kernel
theorem dX7_piece_163 : decode cX7_piece 163 = .ok (.aload_n 0, 1) := by decide +kernel
theorem dX7_piece_164 : decode cX7_piece 164 = .ok (.getfield 19, 3) := by decide +kernel
theorem dX7_piece_167 : decode cX7_piece 167 = .ok (.iload 7, 2) := by decide +kernel
theorem dX7_piece_169 : decode cX7_piece 169 = .ok (.baload, 1) := by decide +kernel
theorem dX7_piece_170 : decode cX7_piece 170 = .ok (.invokevirtual 194, 3) := by decide +kernel
theorem dX7_piece_173 : decode cX7_piece 173 = .ok (.iinc 7 1, 3) := by decide +kernel
theorem dX7_piece_176 : decode cX7_piece 176 = .ok (.goto (-23), 3) := by decide +kernel
theorem dX7_piece_179 : decode cX7_piece 179 = .ok (.goto 29, 3) := by decide +kernel
theorem dX7_piece_182 : decode cX7_piece 182 = .ok (.iload_n 1, 1) := by decide +kernel
theorem dX7_piece_183 : decode cX7_piece 183 = .ok (.istore 7, 2) := by decide +kernel
theorem dX7_piece_185 : decode cX7_piece 185 = .ok (.iload 7, 2) := by decide +kernel
theorem dX7_piece_187 : decode cX7_piece 187 = .ok (.iload_n 2, 1) := by decide +kernel
theorem dX7_piece_188 : decode cX7_piece 188 = .ok (.if_icmp .ge 20, 3) := by decide +kernel
theorem dX7_piece_191 : decode cX7_piece 191 = .ok (.aload_n 0, 1) := by decide +kernel
theorem dX7_piece_192 : decode cX7_piece 192 = .ok (.aload_n 0, 1) := by decide +kernel
theorem dX7_piece_193 : decode cX7_piece 193 = .ok (.getfield 7, 3) := by decide +kernel
theorem dX7_piece_196 : decode cX7_piece 196 = .ok (.iload 7, 2) := by decide +kernel
theorem dX7_piece_198 : decode cX7_piece 198 = .ok (.baload, 1) := by decide +kernel
theorem dX7_piece_199 : decode cX7_piece 199 = .ok (.invokevirtual 194, 3) := by decide +kernel
theorem dX7_piece_202 : decode cX7_piece 202 = .ok (.iinc 7 1, 3) := by decide +kernel
theorem dX7_piece_205 : decode cX7_piece 205 = .ok (.goto (-20), 3) := by decide +kernel
theorem dX7_piece_208 : decode cX7_piece 208 = .ok (.return_, 1) := by decide +kernel
theorem dJ6_rotateLeft_7cf53_0 : decode cJ6_rotateLeft_7cf53 0 = .ok (.iload_n 0, 1) := by decide +kernel
theorem dJ6_rotateLeft_7cf53_1 : decode cJ6_rotateLeft_7cf53 1 = .ok (.iload_n 1, 1) := by decide +kernel
theorem dJ6_rotateLeft_7cf53_2 : decode cJ6_rotateLeft_7cf53 2 = .ok (.ishl, 1) := by decide +kernel
theorem dJ6_rotateLeft_7cf53_3 : decode cJ6_rotateLeft_7cf53 3 = .ok (.iload_n 0, 1) := by decide +kernel
theorem dJ6_rotateLeft_7cf53_4 : decode cJ6_rotateLeft_7cf53 4 = .ok (.iload_n 1, 1) := by decide +kernel
theorem dJ6_rotateLeft_7cf53_5 : decode cJ6_rotateLeft_7cf53 5 = .ok (.ineg, 1) := by decide +kernel
theorem dJ6_rotateLeft_7cf53_6 : decode cJ6_rotateLeft_7cf53 6 = .ok (.iushr, 1) := by decide +kernel
theorem dJ6_rotateLeft_7cf53_7 : decode cJ6_rotateLeft_7cf53 7 = .ok (.ior, 1) := by decide +kernel
theorem dJ6_rotateLeft_7cf53_8 : decode cJ6_rotateLeft_7cf53 8 = .ok (.ireturn, 1) := by decide +kernel
theorem dJ9_max_7cf53_0 : decode cJ9_max_7cf53 0 = .ok (.iload_n 0, 1) := by decide +kernel
theorem dJ9_max_7cf53_1 : decode cJ9_max_7cf53 1 = .ok (.iload_n 1, 1) := by decide +kernel
theorem dJ9_max_7cf53_2 : decode cJ9_max_7cf53 2 = .ok (.if_icmp .lt 7, 3) := by decide +kernel
theorem dJ9_max_7cf53_5 : decode cJ9_max_7cf53 5 = .ok (.iload_n 0, 1) := by decide +kernel
theorem dJ9_max_7cf53_6 : decode cJ9_max_7cf53 6 = .ok (.goto 4, 3) := by decide +kernel
theorem dJ9_max_7cf53_9 : decode cJ9_max_7cf53 9 = .ok (.iload_n 1, 1) := by decide +kernel
theorem dJ9_max_7cf53_10 : decode cJ9_max_7cf53 10 = .ok (.ireturn, 1) := by decide +kernel
theorem dJ9_min_7cf53_0 : decode cJ9_min_7cf53 0 = .ok (.iload_n 0, 1) := by decide +kernel
theorem dJ9_min_7cf53_1 : decode cJ9_min_7cf53 1 = .ok (.iload_n 1, 1) := by decide +kernel
theorem dJ9_min_7cf53_2 : decode cJ9_min_7cf53 2 = .ok (.if_icmp .gt 7, 3) := by decide +kernel
theorem dJ9_min_7cf53_5 : decode cJ9_min_7cf53 5 = .ok (.iload_n 0, 1) := by decide +kernel
theorem dJ9_min_7cf53_6 : decode cJ9_min_7cf53 6 = .ok (.goto 4, 3) := by decide +kernel
theorem dJ9_min_7cf53_9 : decode cJ9_min_7cf53 9 = .ok (.iload_n 1, 1) := by decide +kernel
theorem dJ9_min_7cf53_10 : decode cJ9_min_7cf53 10 = .ok (.ireturn, 1) := by decide +kernel
