theorem dX0_init_0 : decode cX0_init 0 = .ok (.aload_n 0, 1) := by decide +kernel
theorem dX0_init_1 : decode cX0_init 1 = .ok (.invokespecial 3, 3) := by decide +kernel
theorem dX0_init_4 : decode cX0_init 4 = .ok (.aload_n 0, 1) := by decide +kernel
theorem dX0_init_5 : decode cX0_init 5 = .ok (.new 9, 3) := by decide +kernel
theorem dX0_init_8 : decode cX0_init 8 = .ok (.dup, 1) := by decide +kernel
theorem dX0_init_9 : decode cX0_init 9 = .ok (.sipush 20000, 3) := by decide +kernel
theorem dX0_init_12 : decode cX0_init 12 = .ok (.invokespecial 11, 3) := by decide +kernel
theorem dX0_init_15 : decode cX0_init 15 = .ok (.putfield 14, 3) := by decide +kernel
theorem dX0_init_18 : decode cX0_init 18 = .ok (.aload_n 0, 1) := by decide +kernel
theorem dX0_init_19 : decode cX0_init 19 = .ok (.new 20, 3) := by decide +kernel
theorem dX0_init_22 : decode cX0_init 22 = .ok (.dup, 1) := by decide +kernel
theorem dX0_init_23 : decode cX0_init 23 = .ok (.invokespecial 22, 3) := by decide +kernel
theorem dX0_init_26 : decode cX0_init 26 = .ok (.putfield 23, 3) := by decide +kernel
theorem dX0_init_29 : decode cX0_init 29 = .ok (.aload_n 0, 1) := by decide +kernel
theorem dX0_init_30 : decode cX0_init 30 = .ok (.iconst 0, 1) := by decide +kernel
theorem dX0_init_31 : decode cX0_init 31 = .ok (.putfield 27, 3) := by decide +kernel
theorem dX0_init_34 : decode cX0_init 34 = .ok (.aload_n 0, 1) := by decide +kernel
theorem dX0_init_35 : decode cX0_init 35 = .ok (.iconst (-1), 1) := by decide +kernel
theorem dX0_init_36 : decode cX0_init 36 = .ok (.putfield 31, 3) := by decide +kernel
theorem dX0_init_39 : decode cX0_init 39 = .ok (.aload_n 0, 1) := by decide +kernel
theorem dX0_init_40 : decode cX0_init 40 = .ok (.iconst 0, 1) := by decide +kernel
theorem dX0_init_41 : decode cX0_init 41 = .ok (.putfield 34, 3) := by decide +kernel
theorem dX0_init_44 : decode cX0_init 44 = .ok (.aload_n 0, 1) := by decide +kernel
theorem dX0_init_45 : decode cX0_init 45 = .ok (.iconst 0, 1) := by decide +kernel
theorem dX0_init_46 : decode cX0_init 46 = .ok (.putfield 37, 3) := by decide +kernel
theorem dX0_init_49 : decode cX0_init 49 = .ok (.aload_n 0, 1) := by decide +kernel
theorem dX0_init_50 : decode cX0_init 50 = .ok (.iconst 0, 1) := by decide +kernel
theorem dX0_init_51 : decode cX0_init 51 = .ok (.putfield 40, 3) := by decide +kernel
theorem dX0_init_54 : decode cX0_init 54 = .ok (.aload_n 0, 1) := by decide +kernel
theorem dX0_init_55 : decode cX0_init 55 = .ok (.iconst 0, 1) := by decide +kernel
theorem dX0_init_56 : decode cX0_init 56 = .ok (.putfield 43, 3) := by decide +kernel
theorem dX0_init_59 : decode cX0_init 59 = .ok (.aload_n 0, 1) := by decide +kernel
theorem dX0_init_60 : decode cX0_init 60 = .ok (.iconst 0, 1) := by decide +kernel
theorem dX0_init_61 : decode cX0_init 61 = .ok (.putfield 46, 3) := by decide +kernel
theorem dX0_init_64 : decode cX0_init 64 = .ok (.aload_n 0, 1) := by decide +kernel
theorem dX0_init_65 : decode cX0_init 65 = .ok (.iconst 0, 1) := by decide +kernel
theorem dX0_init_66 : decode cX0_init 66 = .ok (.putfield 49, 3) := by decide +kernel
theorem dX0_init_69 : decode cX0_init 69 = .ok (.aload_n 0, 1) := by decide +kernel
theorem dX0_init_70 : decode cX0_init 70 = .ok (.lconst 0, 1) := by decide +kernel
theorem dX0_init_71 : decode cX0_init 71 = .ok (.putfield 52, 3) := by decide +kernel
theorem dX0_init_74 : decode cX0_init 74 = .ok (.aload_n 0, 1) := by decide +kernel
theorem dX0_init_75 : decode cX0_init 75 = .ok (.lconst 0, 1) := by decide +kernel
theorem dX0_init_76 : decode cX0_init 76 = .ok (.putfield 56, 3) := by decide +kernel
theorem dX0_init_79 : decode cX0_init 79 = .ok (.return_, 1) := by decide +kernel
theorem dX0_openBlock_0 : decode cX0_openBlock 0 = .ok (.aload_n 0, 1) := by decide +kernel
theorem dX0_openBlock_1 : decode cX0_openBlock 1 = .ok (.getfield 14, 3) := by decide +kernel
theorem dX0_openBlock_4 : decode cX0_openBlock 4 = .ok (.iconst 0, 1) := by decide +kernel
theorem dX0_openBlock_5 : decode cX0_openBlock 5 = .ok (.invokevirtual 59, 3) := by decide +kernel
theorem dX0_openBlock_8 : decode cX0_openBlock 8 = .ok (.aload_n 0, 1) := by decide +kernel
theorem dX0_openBlock_9 : decode cX0_openBlock 9 = .ok (.getfield 23, 3) := by decide +kernel
theorem dX0_openBlock_12 : decode cX0_openBlock 12 = .ok (.invokevirtual 62, 3) := by decide +kernel
theorem dX0_openBlock_15 : decode cX0_openBlock 15 = .ok (.aload_n 0, 1) := by decide +kernel
theorem dX0_openBlock_16 : decode cX0_openBlock 16 = .ok (.iconst 0, 1) := by decide +kernel
theorem dX0_openBlock_17 : decode cX0_openBlock 17 = .ok (.putfield 27, 3) := by decide +kernel
theorem dX0_openBlock_20 : decode cX0_openBlock 20 = .ok (.aload_n 0, 1) := by decide +kernel
theorem dX0_openBlock_21 : decode cX0_openBlock 21 = .ok (.iconst (-1), 1) := by decide +kernel
theorem dX0_openBlock_22 : decode cX0_openBlock 22 = .ok (.putfield 31, 3) := by decide +kernel
theorem dX0_openBlock_25 : decode cX0_openBlock 25 = .ok (.aload_n 0, 1) := by decide +kernel
theorem dX0_openBlock_26 : decode cX0_openBlock 26 = .ok (.iload_n 2, 1) := by decide +kernel
theorem dX0_openBlock_27 : decode cX0_openBlock 27 = .ok (.putfield 34, 3) := by decide +kernel
theorem dX0_openBlock_30 : decode cX0_openBlock 30 = .ok (.aload_n 0, 1) := by decide +kernel
theorem dX0_openBlock_31 : decode cX0_openBlock 31 = .ok (.iload_n 2, 1) := by decide +kernel
theorem dX0_openBlock_32 : decode cX0_openBlock 32 = .ok (.iload_n 3, 1) := by decide +kernel
theorem dX0_openBlock_33 : decode cX0_openBlock 33 = .ok (.iadd, 1) := by decide +kernel
theorem dX0_openBlock_34 : decode cX0_openBlock 34 = .ok (.putfield 37, 3) := by decide +kernel
theorem dX0_openBlock_37 : decode cX0_openBlock 37 = .ok (.aload_n 0, 1) := by decide +kernel
theorem dX0_openBlock_38 : decode cX0_openBlock 38 = .ok (.iload_n 2, 1) := by decide +kernel
theorem dX0_openBlock_39 : decode cX0_openBlock 39 = .ok (.putfield 40, 3) := by decide +kernel
theorem dX0_openBlock_42 : decode cX0_openBlock 42 = .ok (.aload_n 0, 1) := by decide +kernel
theorem dX0_openBlock_43 : decode cX0_openBlock 43 = .ok (.aload_n 1, 1) := by decide +kernel
theorem dX0_openBlock_44 : decode cX0_openBlock 44 = .ok (.invokevirtual 65, 3) := by decide +kernel
theorem dX0_openBlock_47 : decode cX0_openBlock 47 = .ok (.iconst 0, 1) := by decide +kernel
theorem dX0_openBlock_48 : decode cX0_openBlock 48 = .ok (.istore 4, 2) := by decide +kernel
theorem dX0_openBlock_50 : decode cX0_openBlock 50 = .ok (.iload 4, 2) := by decide +kernel
theorem dX0_openBlock_52 : decode cX0_openBlock 52 = .ok (.iload_n 3, 1) := by decide +kernel
theorem dX0_openBlock_53 : decode cX0_openBlock 53 = .ok (.if_icmp .ge 55, 3) := by decide +kernel
theorem dX0_openBlock_56 : decode cX0_openBlock 56 = .ok (.aload_n 0, 1) := by decide +kernel
theorem dX0_openBlock_57 : decode cX0_openBlock 57 = .ok (.getfield 40, 3) := by decide +kernel
theorem dX0_openBlock_60 : decode cX0_openBlock 60 = .ok (.aload_n 0, 1) := by decide +kernel
theorem dX0_openBlock_61 : decode cX0_openBlock 61 = .ok (.getfield 37, 3) := by decide +kernel
theorem dX0_openBlock_64 : decode cX0_openBlock 64 = .ok (.if_icmp .ge 44, 3) := by decide +kernel
theorem dX0_openBlock_67 : decode cX0_openBlock 67 = .ok (.aload_n 0, 1) := by decide +kernel
theorem dX0_openBlock_68 : decode cX0_openBlock 68 = .ok (.getfield 27, 3) := by decide +kernel
theorem dX0_openBlock_71 : decode cX0_openBlock 71 = .ok (.ifCond .ne 37, 3) := by decide +kernel
theorem dX0_openBlock_74 : decode cX0_openBlock 74 = .ok (.aload_n 0, 1) := by decide +kernel
theorem dX0_openBlock_75 : decode cX0_openBlock 75 = .ok (.aload_n 1, 1) := by decide +kernel
theorem dX0_openBlock_76 : decode cX0_openBlock 76 = .ok (.invokevirtual 69, 3) := by decide +kernel
theorem dX0_openBlock_79 : decode cX0_openBlock 79 = .ok (.aload_n 0, 1) := by decide +kernel
theorem dX0_openBlock_80 : decode cX0_openBlock 80 = .ok (.getfield 27, 3) := by decide +kernel
theorem dX0_openBlock_83 : decode cX0_openBlock 83 = .ok (.ifCond .ne 7, 3) := by decide +kernel
theorem dX0_openBlock_86 : decode cX0_openBlock 86 = .ok (.aload_n 0, 1) := by decide +kernel
theorem dX0_openBlock_87 : decode cX0_openBlock 87 = .ok (.invokevirtual 72, 3) := by decide +kernel
theorem dX0_openBlock_90 : decode cX0_openBlock 90 = .ok (.aload_n 0, 1) := by decide +kernel
theorem dX0_openBlock_91 : decode cX0_openBlock 91 = .ok (.getfield 27, 3) := by decide +kernel
theorem dX0_openBlock_94 : decode cX0_openBlock 94 = .ok (.ifCond .ne 8, 3) := by decide +kernel
theorem dX0_openBlock_97 : decode cX0_openBlock 97 = .ok (.aload_n 0, 1) := by decide +kernel
theorem dX0_openBlock_98 : decode cX0_openBlock 98 = .ok (.aload_n 1, 1) := by decide +kernel
theorem dX0_openBlock_99 : decode cX0_openBlock 99 = .ok (.invokevirtual 75, 3) := by decide +kernel
theorem dX0_openBlock_102 : decode cX0_openBlock 102 = .ok (.iinc 4 1, 3) := by decide +kernel
theorem dX0_openBlock_105 : decode cX0_openBlock 105 = .ok (.goto (-55), 3) := by decide +kernel
theorem dX0_openBlock_108 : decode cX0_openBlock 108 = .ok (.aload_n 0, 1) := by decide +kernel
theorem dX0_openBlock_109 : decode cX0_openBlock 109 = .ok (.getfield 27, 3) := by decide +kernel
theorem dX0_openBlock_112 : decode cX0_openBlock 112 = .ok (.ifCond .ne 27, 3) := by decide +kernel
theorem dX0_openBlock_115 : decode cX0_openBlock 115 = .ok (.aload_n 0, 1) := by decide +kernel
theorem dX0_openBlock_116 : decode cX0_openBlock 116 = .ok (.getfield 14, 3) := by decide +kernel
theorem dX0_openBlock_119 : decode cX0_openBlock 119 = .ok (.getfield 78, 3) := by decide +kernel
theorem dX0_openBlock_122 : decode cX0_openBlock 122 = .ok (.aload_n 0, 1) := by decide +kernel
theorem dX0_openBlock_123 : decode cX0_openBlock 123 = .ok (.getfield 43, 3) := by decide +kernel
theorem dX0_openBlock_126 : decode cX0_openBlock 126 = .ok (.if_icmp .ge 13, 3) := by decide +kernel
theorem dX0_openBlock_129 : decode cX0_openBlock 129 = .ok (.aload_n 0, 1) := by decide +kernel
theorem dX0_openBlock_130 : decode cX0_openBlock 130 = .ok (.bipush 6, 2) := by decide +kernel
theorem dX0_openBlock_132 : decode cX0_openBlock 132 = .ok (.aload_n 0, 1) := by decide +kernel
theorem dX0_openBlock_133 : decode cX0_openBlock 133 = .ok (.getfield 37, 3) := by decide +kernel
theorem dX0_openBlock_136 : decode cX0_openBlock 136 = .ok (.invokevirtual 81, 3) := by decide +kernel
theorem dX0_openBlock_139 : decode cX0_openBlock 139 = .ok (.return_, 1) := by decide +kernel
theorem dX0_fail_0 : decode cX0_fail 0 = .ok (.aload_n 0, 1) := by decide +kernel
theorem dX0_fail_1 : decode cX0_fail 1 = .ok (.iload_n 1, 1) := by decide +kernel
theorem dX0_fail_2 : decode cX0_fail 2 = .ok (.putfield 27, 3) := by decide +kernel
theorem dX0_fail_5 : decode cX0_fail 5 = .ok (.aload_n 0, 1) := by decide +kernel
theorem dX0_fail_6 : decode cX0_fail 6 = .ok (.iload_n 2, 1) := by decide +kernel
theorem dX0_fail_7 : decode cX0_fail 7 = .ok (.aload_n 0, 1) := by decide +kernel
theorem dX0_fail_8 : decode cX0_fail 8 = .ok (.getfield 34, 3) := by decide +kernel
theorem dX0_fail_11 : decode cX0_fail 11 = .ok (.isub, 1) := by decide +kernel
theorem dX0_fail_12 : decode cX0_fail 12 = .ok (.putfield 31, 3) := by decide +kernel
theorem dX0_fail_15 : decode cX0_fail 15 = .ok (.return_, 1) := by decide +kernel
theorem dX0_readLength_0 : decode cX0_readLength 0 = .ok (.lconst 0, 1) := by decide +kernel
theorem dX0_readLength_1 : decode cX0_readLength 1 = .ok (.lstore_n 2, 1) := by decide +kernel
theorem dX0_readLength_2 : decode cX0_readLength 2 = .ok (.iconst 0, 1) := by decide +kernel
theorem dX0_readLength_3 : decode cX0_readLength 3 = .ok (.istore 4, 2) := by decide +kernel
theorem dX0_readLength_5 : decode cX0_readLength 5 = .ok (.iconst 0, 1) := by decide +kernel
theorem dX0_readLength_6 : decode cX0_readLength 6 = .ok (.istore 5, 2) := by decide +kernel
theorem dX0_readLength_8 : decode cX0_readLength 8 = .ok (.iload 5, 2) := by decide +kernel
theorem dX0_readLength_10 : decode cX0_readLength 10 = .ok (.iconst 5, 1) := by decide +kernel
theorem dX0_readLength_11 : decode cX0_readLength 11 = .ok (.if_icmp .ge 75, 3) := by decide +kernel
theorem dX0_readLength_14 : decode cX0_readLength 14 = .ok (.aload_n 0, 1) := by decide +kernel
theorem dX0_readLength_15 : decode cX0_readLength 15 = .ok (.getfield 40, 3) := by decide +kernel
theorem dX0_readLength_18 : decode cX0_readLength 18 = .ok (.aload_n 0, 1) := by decide +kernel
theorem dX0_readLength_19 : decode cX0_readLength 19 = .ok (.getfield 37, 3) := by decide +kernel
theorem dX0_readLength_22 : decode cX0_readLength 22 = .ok (.if_icmp .ge 64, 3) := by decide +kernel
theorem dX0_readLength_25 : decode cX0_readLength 25 = .ok (.iload 4, 2) := by decide +kernel
theorem dX0_readLength_27 : decode cX0_readLength 27 = .ok (.ifCond .ne 59, 3) := by decide +kernel
theorem dX0_readLength_30 : decode cX0_readLength 30 = .ok (.aload_n 1, 1) := by decide +kernel
theorem dX0_readLength_31 : decode cX0_readLength 31 = .ok (.aload_n 0, 1) := by decide +kernel
theorem dX0_readLength_32 : decode cX0_readLength 32 = .ok (.getfield 40, 3) := by decide +kernel
theorem dX0_readLength_35 : decode cX0_readLength 35 = .ok (.invokevirtual 85, 3) := by decide +kernel
theorem dX0_readLength_38 : decode cX0_readLength 38 = .ok (.istore 6, 2) := by decide +kernel
theorem dX0_readLength_40 : decode cX0_readLength 40 = .ok (.aload_n 0, 1) := by decide +kernel
theorem dX0_readLength_41 : decode cX0_readLength 41 = .ok (.dup, 1) := by decide +kernel
theorem dX0_readLength_42 : decode cX0_readLength 42 = .ok (.getfield 40, 3) := by decide +kernel
theorem dX0_readLength_45 : decode cX0_readLength 45 = .ok (.iconst 1, 1) := by decide +kernel
theorem dX0_readLength_46 : decode cX0_readLength 46 = .ok (.iadd, 1) := by decide +kernel
theorem dX0_readLength_47 : decode cX0_readLength 47 = .ok (.putfield 40, 3) := by decide +kernel
theorem dX0_readLength_50 : decode cX0_readLength 50 = .ok (.lload_n 2, 1) := by decide +kernel
theorem dX0_readLength_51 : decode cX0_readLength 51 = .ok (.iload 6, 2) := by decide +kernel
theorem dX0_readLength_53 : decode cX0_readLength 53 = .ok (.bipush 127, 2) := by decide +kernel
theorem dX0_readLength_55 : decode cX0_readLength 55 = .ok (.iand, 1) := by decide +kernel
theorem dX0_readLength_56 : decode cX0_readLength 56 = .ok (.i2l, 1) := by decide +kernel
theorem dX0_readLength_57 : decode cX0_readLength 57 = .ok (.bipush 7, 2) := by decide +kernel
theorem dX0_readLength_59 : decode cX0_readLength 59 = .ok (.iload 5, 2) := by decide +kernel
theorem dX0_readLength_61 : decode cX0_readLength 61 = .ok (.imul, 1) := by decide +kernel
theorem dX0_readLength_62 : decode cX0_readLength 62 = .ok (.lshl, 1) := by decide +kernel
theorem dX0_readLength_63 : decode cX0_readLength 63 = .ok (.lor, 1) := by decide +kernel
theorem dX0_readLength_64 : decode cX0_readLength 64 = .ok (.lstore_n 2, 1) := by decide +kernel
theorem dX0_readLength_65 : decode cX0_readLength 65 = .ok (.iload 6, 2) := by decide +kernel
theorem dX0_readLength_67 : decode cX0_readLength 67 = .ok (.sipush 128, 3) := by decide +kernel
theorem dX0_readLength_70 : decode cX0_readLength 70 = .ok (.if_icmp .ge 7, 3) := by decide +kernel
theorem dX0_readLength_73 : decode cX0_readLength 73 = .ok (.iconst 1, 1) := by decide +kernel
theorem dX0_readLength_74 : decode cX0_readLength 74 = .ok (.goto 4, 3) := by decide +kernel
theorem dX0_readLength_77 : decode cX0_readLength 77 = .ok (.iconst 0, 1) := by decide +kernel
theorem dX0_readLength_78 : decode cX0_readLength 78 = .ok (.istore 4, 2) := by decide +kernel
theorem dX0_readLength_80 : decode cX0_readLength 80 = .ok (.iinc 5 1, 3) := by decide +kernel
theorem dX0_readLength_83 : decode cX0_readLength 83 = .ok (.goto (-75), 3) := by decide +kernel
theorem dX0_readLength_86 : decode cX0_readLength 86 = .ok (.iload 4, 2) := by decide +kernel
theorem dX0_readLength_88 : decode cX0_readLength 88 = .ok (.ifCond .eq 11, 3) := by decide +kernel
theorem dX0_readLength_91 : decode cX0_readLength 91 = .ok (.lload_n 2, 1) := by decide +kernel
theorem dX0_readLength_92 : decode cX0_readLength 92 = .ok (.ldc2_w 89, 3) := by decide +kernel
theorem dX0_readLength_95 : decode cX0_readLength 95 = .ok (.lcmp, 1) := by decide +kernel
theorem dX0_readLength_96 : decode cX0_readLength 96 = .ok (.ifCond .lt 15, 3) := by decide +kernel
theorem dX0_readLength_99 : decode cX0_readLength 99 = .ok (.aload_n 0, 1) := by decide +kernel
theorem dX0_readLength_100 : decode cX0_readLength 100 = .ok (.iconst 1, 1) := by decide +kernel
theorem dX0_readLength_101 : decode cX0_readLength 101 = .ok (.aload_n 0, 1) := by decide +kernel
theorem dX0_readLength_102 : decode cX0_readLength 102 = .ok (.getfield 34, 3) := by decide +kernel
theorem dX0_readLength_105 : decode cX0_readLength 105 = .ok (.invokevirtual 81, 3) := by decide +kernel
theorem dX0_readLength_108 : decode cX0_readLength 108 = .ok (.goto 29, 3) := by decide +kernel
theorem dX0_readLength_111 : decode cX0_readLength 111 = .ok (.lload_n 2, 1) := by decide +kernel
theorem dX0_readLength_112 : decode cX0_readLength 112 = .ok (.ldc2_w 91, 3) := by decide +kernel
theorem dX0_readLength_115 : decode cX0_readLength 115 = .ok (.lcmp, 1) := by decide +kernel
theorem dX0_readLength_116 : decode cX0_readLength 116 = .ok (.ifCond .le 15, 3) := by decide +kernel
theorem dX0_readLength_119 : decode cX0_readLength 119 = .ok (.aload_n 0, 1) := by decide +kernel
theorem dX0_readLength_120 : decode cX0_readLength 120 = .ok (.iconst 2, 1) := by decide +kernel
theorem dX0_readLength_121 : decode cX0_readLength 121 = .ok (.aload_n 0, 1) := by decide +kernel
theorem dX0_readLength_122 : decode cX0_readLength 122 = .ok (.getfield 34, 3) := by decide +kernel
theorem dX0_readLength_125 : decode cX0_readLength 125 = .ok (.invokevirtual 81, 3) := by decide +kernel
theorem dX0_readLength_128 : decode cX0_readLength 128 = .ok (.goto 9, 3) := by decide +kernel
theorem dX0_readLength_131 : decode cX0_readLength 131 = .ok (.aload_n 0, 1) := by decide +kernel
theorem dX0_readLength_132 : decode cX0_readLength 132 = .ok (.lload_n 2, 1) := by decide +kernel
theorem dX0_readLength_133 : decode cX0_readLength 133 = .ok (.l2i, 1) := by decide +kernel
theorem dX0_readLength_134 : decode cX0_readLength 134 = .ok (.putfield 43, 3) := by decide +kernel
theorem dX0_readLength_137 : decode cX0_readLength 137 = .ok (.return_, 1) := by decide +kernel
theorem dX0_readElement_0 : decode cX0_readElement 0 = .ok (.aload_n 1, 1) := by decide +kernel
theorem dX0_readElement_1 : decode cX0_readElement 1 = .ok (.aload_n 0, 1) := by decide +kernel
theorem dX0_readElement_2 : decode cX0_readElement 2 = .ok (.getfield 40, 3) := by decide +kernel
theorem dX0_readElement_5 : decode cX0_readElement 5 = .ok (.invokevirtual 85, 3) := by decide +kernel
theorem dX0_readElement_8 : decode cX0_readElement 8 = .ok (.istore_n 2, 1) := by decide +kernel
theorem dX0_readElement_9 : decode cX0_readElement 9 = .ok (.iload_n 2, 1) := by decide +kernel
theorem dX0_readElement_10 : decode cX0_readElement 10 = .ok (.iconst 2, 1) := by decide +kernel
theorem dX0_readElement_11 : decode cX0_readElement 11 = .ok (.ishr, 1) := by decide +kernel
theorem dX0_readElement_12 : decode cX0_readElement 12 = .ok (.istore_n 3, 1) := by decide +kernel
theorem dX0_readElement_13 : decode cX0_readElement 13 = .ok (.aload_n 0, 1) := by decide +kernel
theorem dX0_readElement_14 : decode cX0_readElement 14 = .ok (.iload_n 2, 1) := by decide +kernel
theorem dX0_readElement_15 : decode cX0_readElement 15 = .ok (.iconst 3, 1) := by decide +kernel
theorem dX0_readElement_16 : decode cX0_readElement 16 = .ok (.iand, 1) := by decide +kernel
theorem dX0_readElement_17 : decode cX0_readElement 17 = .ok (.putfield 46, 3) := by decide +kernel
theorem dX0_readElement_20 : decode cX0_readElement 20 = .ok (.aload_n 0, 1) := by decide +kernel
theorem dX0_readElement_21 : decode cX0_readElement 21 = .ok (.getfield 46, 3) := by decide +kernel
theorem dX0_readElement_24 : decode cX0_readElement 24 = .ok (.iload_n 3, 1) := by decide +kernel
theorem dX0_readElement_25 : decode cX0_readElement 25 = .ok (.invokestatic 93, 3) := by decide +kernel
theorem dX0_readElement_28 : decode cX0_readElement 28 = .ok (.istore 4, 2) := by decide +kernel
theorem dX0_readElement_30 : decode cX0_readElement 30 = .ok (.aload_n 0, 1) := by decide +kernel
theorem dX0_readElement_31 : decode cX0_readElement 31 = .ok (.aload_n 0, 1) := by decide +kernel
theorem dX0_readElement_32 : decode cX0_readElement 32 = .ok (.getfield 40, 3) := by decide +kernel
theorem dX0_readElement_35 : decode cX0_readElement 35 = .ok (.iconst 1, 1) := by decide +kernel
theorem dX0_readElement_36 : decode cX0_readElement 36 = .ok (.iadd, 1) := by decide +kernel
theorem dX0_readElement_37 : decode cX0_readElement 37 = .ok (.iload 4, 2) := by decide +kernel
theorem dX0_readElement_39 : decode cX0_readElement 39 = .ok (.iadd, 1) := by decide +kernel
theorem dX0_readElement_40 : decode cX0_readElement 40 = .ok (.putfield 49, 3) := by decide +kernel
theorem dX0_readElement_43 : decode cX0_readElement 43 = .ok (.aload_n 0, 1) := by decide +kernel
theorem dX0_readElement_44 : decode cX0_readElement 44 = .ok (.getfield 49, 3) := by decide +kernel
theorem dX0_readElement_47 : decode cX0_readElement 47 = .ok (.aload_n 0, 1) := by decide +kernel
theorem dX0_readElement_48 : decode cX0_readElement 48 = .ok (.getfield 37, 3) := by decide +kernel
theorem dX0_readElement_51 : decode cX0_readElement 51 = .ok (.if_icmp .le 13, 3) := by decide +kernel
theorem dX0_readElement_54 : decode cX0_readElement 54 = .ok (.aload_n 0, 1) := by decide +kernel
theorem dX0_readElement_55 : decode cX0_readElement 55 = .ok (.iconst 3, 1) := by decide +kernel
theorem dX0_readElement_56 : decode cX0_readElement 56 = .ok (.aload_n 0, 1) := by decide +kernel
theorem dX0_readElement_57 : decode cX0_readElement 57 = .ok (.getfield 40, 3) := by decide +kernel
theorem dX0_readElement_60 : decode cX0_readElement 60 = .ok (.invokevirtual 81, 3) := by decide +kernel
theorem dX0_readElement_63 : decode cX0_readElement 63 = .ok (.return_, 1) := by decide +kernel
theorem dX0_readElement_64 : decode cX0_readElement 64 = .ok (.aload_n 1, 1) := by decide +kernel
theorem dX0_readElement_65 : decode cX0_readElement 65 = .ok (.aload_n 0, 1) := by decide +kernel
theorem dX0_readElement_66 : decode cX0_readElement 66 = .ok (.getfield 40, 3) := by decide +kernel
theorem dX0_readElement_69 : decode cX0_readElement 69 = .ok (.iconst 1, 1) := by decide +kernel
theorem dX0_readElement_70 : decode cX0_readElement 70 = .ok (.iadd, 1) := by decide +kernel
theorem dX0_readElement_71 : decode cX0_readElement 71 = .ok (.iload 4, 2) := by decide +kernel
theorem dX0_readElement_73 : decode cX0_readElement 73 = .ok (.invokevirtual 97, 3) := by decide +kernel
theorem dX0_readElement_76 : decode cX0_readElement 76 = .ok (.lstore 5, 2) := by decide +kernel
theorem dX0_readElement_78 : decode cX0_readElement 78 = .ok (.aload_n 0, 1) := by decide +kernel
theorem dX0_readElement_79 : decode cX0_readElement 79 = .ok (.aload_n 0, 1) := by decide +kernel
theorem dX0_readElement_80 : decode cX0_readElement 80 = .ok (.getfield 46, 3) := by decide +kernel
theorem dX0_readElement_83 : decode cX0_readElement 83 = .ok (.iload_n 3, 1) := by decide +kernel
theorem dX0_readElement_84 : decode cX0_readElement 84 = .ok (.lload 5, 2) := by decide +kernel
theorem dX0_readElement_86 : decode cX0_readElement 86 = .ok (.invokestatic 101, 3) := by decide +kernel
theorem dX0_readElement_89 : decode cX0_readElement 89 = .ok (.putfield 52, 3) := by decide +kernel
theorem dX0_readElement_92 : decode cX0_readElement 92 = .ok (.aload_n 0, 1) := by decide +kernel
theorem dX0_readElement_93 : decode cX0_readElement 93 = .ok (.aload_n 0, 1) := by decide +kernel
theorem dX0_readElement_94 : decode cX0_readElement 94 = .ok (.getfield 46, 3) := by decide +kernel
theorem dX0_readElement_97 : decode cX0_readElement 97 = .ok (.iload_n 3, 1) := by decide +kernel
theorem dX0_readElement_98 : decode cX0_readElement 98 = .ok (.lload 5, 2) := by decide +kernel
theorem dX0_readElement_100 : decode cX0_readElement 100 = .ok (.invokestatic 105, 3) := by decide +kernel
theorem dX0_readElement_103 : decode cX0_readElement 103 = .ok (.putfield 56, 3) := by decide +kernel
theorem dX0_readElement_106 : decode cX0_readElement 106 = .ok (.return_, 1) := by decide +kernel
theorem dX0_bytesBehindTag_0 : decode cX0_bytesBehindTag 0 = .ok (.iload_n 0, 1) := by decide +kernel
theorem dX0_bytesBehindTag_1 : decode cX0_bytesBehindTag 1 = .ok (.tableswitch 46 0 2 #[27, 42, 44], 27) := by decide +kernel
theorem dX0_bytesBehindTag_28 : decode cX0_bytesBehindTag 28 = .ok (.iload_n 1, 1) := by decide +kernel
theorem dX0_bytesBehindTag_29 : decode cX0_bytesBehindTag 29 = .ok (.bipush 60, 2) := by decide +kernel
theorem dX0_bytesBehindTag_31 : decode cX0_bytesBehindTag 31 = .ok (.if_icmp .ge 7, 3) := by decide +kernel
theorem dX0_bytesBehindTag_34 : decode cX0_bytesBehindTag 34 = .ok (.iconst 0, 1) := by decide +kernel
theorem dX0_bytesBehindTag_35 : decode cX0_bytesBehindTag 35 = .ok (.goto 7, 3) := by decide +kernel
theorem dX0_bytesBehindTag_38 : decode cX0_bytesBehindTag 38 = .ok (.iload_n 1, 1) := by decide +kernel
theorem dX0_bytesBehindTag_39 : decode cX0_bytesBehindTag 39 = .ok (.bipush 59, 2) := by decide +kernel
theorem dX0_bytesBehindTag_41 : decode cX0_bytesBehindTag 41 = .ok (.isub, 1) := by decide +kernel
theorem dX0_bytesBehindTag_42 : decode cX0_bytesBehindTag 42 = .ok (.ireturn, 1) := by decide +kernel
theorem dX0_bytesBehindTag_43 : decode cX0_bytesBehindTag 43 = .ok (.iconst 1, 1) := by decide +kernel
theorem dX0_bytesBehindTag_44 : decode cX0_bytesBehindTag 44 = .ok (.ireturn, 1) := by decide +kernel
theorem dX0_bytesBehindTag_45 : decode cX0_bytesBehindTag 45 = .ok (.iconst 2, 1) := by decide +kernel
theorem dX0_bytesBehindTag_46 : decode cX0_bytesBehindTag 46 = .ok (.ireturn, 1) := by decide +kernel
theorem dX0_bytesBehindTag_47 : decode cX0_bytesBehindTag 47 = .ok (.iconst 4, 1) := by decide +kernel
theorem dX0_bytesBehindTag_48 : decode cX0_bytesBehindTag 48 = .ok (.ireturn, 1) := by decide +kernel
theorem dX0_sizeOf_0 : decode cX0_sizeOf 0 = .ok (.iload_n 0, 1) := by decide +kernel
theorem dX0_sizeOf_1 : decode cX0_sizeOf 1 = .ok (.lookupswitch 52 #[(0, 27), (1, 44)], 27) := by decide +kernel
theorem dX0_sizeOf_28 : decode cX0_sizeOf 28 = .ok (.iload_n 1, 1) := by decide +kernel
theorem dX0_sizeOf_29 : decode cX0_sizeOf 29 = .ok (.bipush 60, 2) := by decide +kernel
theorem dX0_sizeOf_31 : decode cX0_sizeOf 31 = .ok (.if_icmp .ge 10, 3) := by decide +kernel
theorem dX0_sizeOf_34 : decode cX0_sizeOf 34 = .ok (.iload_n 1, 1) := by decide +kernel
theorem dX0_sizeOf_35 : decode cX0_sizeOf 35 = .ok (.iconst 1, 1) := by decide +kernel
theorem dX0_sizeOf_36 : decode cX0_sizeOf 36 = .ok (.iadd, 1) := by decide +kernel
theorem dX0_sizeOf_37 : decode cX0_sizeOf 37 = .ok (.i2l, 1) := by decide +kernel
theorem dX0_sizeOf_38 : decode cX0_sizeOf 38 = .ok (.goto 6, 3) := by decide +kernel
theorem dX0_sizeOf_41 : decode cX0_sizeOf 41 = .ok (.lload_n 2, 1) := by decide +kernel
theorem dX0_sizeOf_42 : decode cX0_sizeOf 42 = .ok (.lconst 1, 1) := by decide +kernel
theorem dX0_sizeOf_43 : decode cX0_sizeOf 43 = .ok (.ladd, 1) := by decide +kernel
theorem dX0_sizeOf_44 : decode cX0_sizeOf 44 = .ok (.lreturn, 1) := by decide +kernel
theorem dX0_sizeOf_45 : decode cX0_sizeOf 45 = .ok (.iload_n 1, 1) := by decide +kernel
theorem dX0_sizeOf_46 : decode cX0_sizeOf 46 = .ok (.bipush 7, 2) := by decide +kernel
theorem dX0_sizeOf_48 : decode cX0_sizeOf 48 = .ok (.iand, 1) := by decide +kernel
theorem dX0_sizeOf_49 : decode cX0_sizeOf 49 = .ok (.iconst 4, 1) := by decide +kernel
theorem dX0_sizeOf_50 : decode cX0_sizeOf 50 = .ok (.iadd, 1) := by decide +kernel
theorem dX0_sizeOf_51 : decode cX0_sizeOf 51 = .ok (.i2l, 1) := by decide +kernel
theorem dX0_sizeOf_52 : decode cX0_sizeOf 52 = .ok (.lreturn, 1) := by decide +kernel
theorem dX0_sizeOf_53 : decode cX0_sizeOf 53 = .ok (.iload_n 1, 1) := by decide +kernel
theorem dX0_sizeOf_54 : decode cX0_sizeOf 54 = .ok (.iconst 1, 1) := by decide +kernel
theorem dX0_sizeOf_55 : decode cX0_sizeOf 55 = .ok (.iadd, 1) := by decide +kernel
theorem dX0_sizeOf_56 : decode cX0_sizeOf 56 = .ok (.i2l, 1) := by decide +kernel
theorem dX0_sizeOf_57 : decode cX0_sizeOf 57 = .ok (.lreturn, 1) := by decide +kernel
theorem dX0_backOf_0 : decode cX0_backOf 0 = .ok (.iload_n 0, 1) := by decide +kernel
theorem dX0_backOf_1 : decode cX0_backOf 1 = .ok (.lookupswitch 40 #[(0, 27), (1, 29)], 27) := by decide +kernel
theorem dX0_backOf_28 : decode cX0_backOf 28 = .ok (.lconst 0, 1) := by decide +kernel
theorem dX0_backOf_29 : decode cX0_backOf 29 = .ok (.lreturn, 1) := by decide +kernel
theorem dX0_backOf_30 : decode cX0_backOf 30 = .ok (.iload_n 1, 1) := by decide +kernel
theorem dX0_backOf_31 : decode cX0_backOf 31 = .ok (.iconst 3, 1) := by decide +kernel
theorem dX0_backOf_32 : decode cX0_backOf 32 = .ok (.ishr, 1) := by decide +kernel
theorem dX0_backOf_33 : decode cX0_backOf 33 = .ok (.sipush 256, 3) := by decide +kernel
theorem dX0_backOf_36 : decode cX0_backOf 36 = .ok (.imul, 1) := by decide +kernel
theorem dX0_backOf_37 : decode cX0_backOf 37 = .ok (.i2l, 1) := by decide +kernel
theorem dX0_backOf_38 : decode cX0_backOf 38 = .ok (.lload_n 2, 1) := by decide +kernel
theorem dX0_backOf_39 : decode cX0_backOf 39 = .ok (.ladd, 1) := by decide +kernel
theorem dX0_backOf_40 : decode cX0_backOf 40 = .ok (.lreturn, 1) := by decide +kernel
theorem dX0_backOf_41 : decode cX0_backOf 41 = .ok (.lload_n 2, 1) := by decide +kernel
theorem dX0_backOf_42 : decode cX0_backOf 42 = .ok (.lreturn, 1) := by decide +kernel
theorem dX0_checkElement_0 : decode cX0_checkElement 0 = .ok (.aload_n 0, 1) := by decide +kernel
theorem dX0_checkElement_1 : decode cX0_checkElement 1 = .ok (.getfield 46, 3) := by decide +kernel
theorem dX0_checkElement_4 : decode cX0_checkElement 4 = .ok (.ifCond .ne 33, 3) := by decide +kernel
theorem dX0_checkElement_7 : decode cX0_checkElement 7 = .ok (.aload_n 0, 1) := by decide +kernel
theorem dX0_checkElement_8 : decode cX0_checkElement 8 = .ok (.getfield 52, 3) := by decide +kernel
theorem dX0_checkElement_11 : decode cX0_checkElement 11 = .ok (.aload_n 0, 1) := by decide +kernel
theorem dX0_checkElement_12 : decode cX0_checkElement 12 = .ok (.getfield 37, 3) := by decide +kernel
theorem dX0_checkElement_15 : decode cX0_checkElement 15 = .ok (.aload_n 0, 1) := by decide +kernel
theorem dX0_checkElement_16 : decode cX0_checkElement 16 = .ok (.getfield 49, 3) := by decide +kernel
theorem dX0_checkElement_19 : decode cX0_checkElement 19 = .ok (.isub, 1) := by decide +kernel
theorem dX0_checkElement_20 : decode cX0_checkElement 20 = .ok (.i2l, 1) := by decide +kernel
theorem dX0_checkElement_21 : decode cX0_checkElement 21 = .ok (.lcmp, 1) := by decide +kernel
theorem dX0_checkElement_22 : decode cX0_checkElement 22 = .ok (.ifCond .le 15, 3) := by decide +kernel
theorem dX0_checkElement_25 : decode cX0_checkElement 25 = .ok (.aload_n 0, 1) := by decide +kernel
theorem dX0_checkElement_26 : decode cX0_checkElement 26 = .ok (.iconst 3, 1) := by decide +kernel
theorem dX0_checkElement_27 : decode cX0_checkElement 27 = .ok (.aload_n 0, 1) := by decide +kernel
theorem dX0_checkElement_28 : decode cX0_checkElement 28 = .ok (.getfield 40, 3) := by decide +kernel
theorem dX0_checkElement_31 : decode cX0_checkElement 31 = .ok (.invokevirtual 81, 3) := by decide +kernel
theorem dX0_checkElement_34 : decode cX0_checkElement 34 = .ok (.goto 77, 3) := by decide +kernel
theorem dX0_checkElement_37 : decode cX0_checkElement 37 = .ok (.aload_n 0, 1) := by decide +kernel
theorem dX0_checkElement_38 : decode cX0_checkElement 38 = .ok (.getfield 46, 3) := by decide +kernel
theorem dX0_checkElement_41 : decode cX0_checkElement 41 = .ok (.ifCond .eq 40, 3) := by decide +kernel
theorem dX0_checkElement_44 : decode cX0_checkElement 44 = .ok (.aload_n 0, 1) := by decide +kernel
theorem dX0_checkElement_45 : decode cX0_checkElement 45 = .ok (.getfield 56, 3) := by decide +kernel
theorem dX0_checkElement_48 : decode cX0_checkElement 48 = .ok (.lconst 0, 1) := by decide +kernel
theorem dX0_checkElement_49 : decode cX0_checkElement 49 = .ok (.lcmp, 1) := by decide +kernel
theorem dX0_checkElement_50 : decode cX0_checkElement 50 = .ok (.ifCond .eq 19, 3) := by decide +kernel
theorem dX0_checkElement_53 : decode cX0_checkElement 53 = .ok (.aload_n 0, 1) := by decide +kernel
theorem dX0_checkElement_54 : decode cX0_checkElement 54 = .ok (.getfield 56, 3) := by decide +kernel
theorem dX0_checkElement_57 : decode cX0_checkElement 57 = .ok (.aload_n 0, 1) := by decide +kernel
theorem dX0_checkElement_58 : decode cX0_checkElement 58 = .ok (.getfield 14, 3) := by decide +kernel
theorem dX0_checkElement_61 : decode cX0_checkElement 61 = .ok (.getfield 78, 3) := by decide +kernel
theorem dX0_checkElement_64 : decode cX0_checkElement 64 = .ok (.i2l, 1) := by decide +kernel
theorem dX0_checkElement_65 : decode cX0_checkElement 65 = .ok (.lcmp, 1) := by decide +kernel
theorem dX0_checkElement_66 : decode cX0_checkElement 66 = .ok (.ifCond .le 15, 3) := by decide +kernel
theorem dX0_checkElement_69 : decode cX0_checkElement 69 = .ok (.aload_n 0, 1) := by decide +kernel
theorem dX0_checkElement_70 : decode cX0_checkElement 70 = .ok (.iconst 4, 1) := by decide +kernel
theorem dX0_checkElement_71 : decode cX0_checkElement 71 = .ok (.aload_n 0, 1) := by decide +kernel
theorem dX0_checkElement_72 : decode cX0_checkElement 72 = .ok (.getfield 40, 3) := by decide +kernel
theorem dX0_checkElement_75 : decode cX0_checkElement 75 = .ok (.invokevirtual 81, 3) := by decide +kernel
theorem dX0_checkElement_78 : decode cX0_checkElement 78 = .ok (.goto 33, 3) := by decide +kernel
theorem dX0_checkElement_81 : decode cX0_checkElement 81 = .ok (.aload_n 0, 1) := by decide +kernel
theorem dX0_checkElement_82 : decode cX0_checkElement 82 = .ok (.getfield 52, 3) := by decide +kernel
theorem dX0_checkElement_85 : decode cX0_checkElement 85 = .ok (.aload_n 0, 1) := by decide +kernel
theorem dX0_checkElement_86 : decode cX0_checkElement 86 = .ok (.getfield 43, 3) := by decide +kernel
theorem dX0_checkElement_89 : decode cX0_checkElement 89 = .ok (.aload_n 0, 1) := by decide +kernel
theorem dX0_checkElement_90 : decode cX0_checkElement 90 = .ok (.getfield 14, 3) := by decide +kernel
theorem dX0_checkElement_93 : decode cX0_checkElement 93 = .ok (.getfield 78, 3) := by decide +kernel
theorem dX0_checkElement_96 : decode cX0_checkElement 96 = .ok (.isub, 1) := by decide +kernel
theorem dX0_checkElement_97 : decode cX0_checkElement 97 = .ok (.i2l, 1) := by decide +kernel
theorem dX0_checkElement_98 : decode cX0_checkElement 98 = .ok (.lcmp, 1) := by decide +kernel
theorem dX0_checkElement_99 : decode cX0_checkElement 99 = .ok (.ifCond .le 12, 3) := by decide +kernel
theorem dX0_checkElement_102 : decode cX0_checkElement 102 = .ok (.aload_n 0, 1) := by decide +kernel
theorem dX0_checkElement_103 : decode cX0_checkElement 103 = .ok (.iconst 5, 1) := by decide +kernel
theorem dX0_checkElement_104 : decode cX0_checkElement 104 = .ok (.aload_n 0, 1) := by decide +kernel
theorem dX0_checkElement_105 : decode cX0_checkElement 105 = .ok (.getfield 40, 3) := by decide +kernel
theorem dX0_checkElement_108 : decode cX0_checkElement 108 = .ok (.invokevirtual 81, 3) := by decide +kernel
theorem dX0_checkElement_111 : decode cX0_checkElement 111 = .ok (.return_, 1) := by decide +kernel
theorem dX0_giveElement_0 : decode cX0_giveElement 0 = .ok (.aload_n 0, 1) := by decide +kernel
theorem dX0_giveElement_1 : decode cX0_giveElement 1 = .ok (.getfield 52, 3) := by decide +kernel
theorem dX0_giveElement_4 : decode cX0_giveElement 4 = .ok (.l2i, 1) := by decide +kernel
theorem dX0_giveElement_5 : decode cX0_giveElement 5 = .ok (.istore_n 2, 1) := by decide +kernel
theorem dX0_giveElement_6 : decode cX0_giveElement 6 = .ok (.aload_n 0, 1) := by decide +kernel
theorem dX0_giveElement_7 : decode cX0_giveElement 7 = .ok (.getfield 56, 3) := by decide +kernel
theorem dX0_giveElement_10 : decode cX0_giveElement 10 = .ok (.l2i, 1) := by decide +kernel
theorem dX0_giveElement_11 : decode cX0_giveElement 11 = .ok (.istore_n 3, 1) := by decide +kernel
theorem dX0_giveElement_12 : decode cX0_giveElement 12 = .ok (.aload_n 0, 1) := by decide +kernel
theorem dX0_giveElement_13 : decode cX0_giveElement 13 = .ok (.getfield 23, 3) := by decide +kernel
theorem dX0_giveElement_16 : decode cX0_giveElement 16 = .ok (.aload_n 0, 1) := by decide +kernel
theorem dX0_giveElement_17 : decode cX0_giveElement 17 = .ok (.getfield 46, 3) := by decide +kernel
theorem dX0_giveElement_20 : decode cX0_giveElement 20 = .ok (.aload_n 0, 1) := by decide +kernel
theorem dX0_giveElement_21 : decode cX0_giveElement 21 = .ok (.getfield 40, 3) := by decide +kernel
theorem dX0_giveElement_24 : decode cX0_giveElement 24 = .ok (.aload_n 0, 1) := by decide +kernel
theorem dX0_giveElement_25 : decode cX0_giveElement 25 = .ok (.getfield 34, 3) := by decide +kernel
theorem dX0_giveElement_28 : decode cX0_giveElement 28 = .ok (.isub, 1) := by decide +kernel
theorem dX0_giveElement_29 : decode cX0_giveElement 29 = .ok (.iload_n 2, 1) := by decide +kernel
theorem dX0_giveElement_30 : decode cX0_giveElement 30 = .ok (.iload_n 3, 1) := by decide +kernel
theorem dX0_giveElement_31 : decode cX0_giveElement 31 = .ok (.aload_n 0, 1) := by decide +kernel
theorem dX0_giveElement_32 : decode cX0_giveElement 32 = .ok (.getfield 14, 3) := by decide +kernel
theorem dX0_giveElement_35 : decode cX0_giveElement 35 = .ok (.getfield 78, 3) := by decide +kernel
theorem dX0_giveElement_38 : decode cX0_giveElement 38 = .ok (.aload_n 0, 1) := by decide +kernel
theorem dX0_giveElement_39 : decode cX0_giveElement 39 = .ok (.getfield 46, 3) := by decide +kernel
theorem dX0_giveElement_42 : decode cX0_giveElement 42 = .ok (.ifCond .ne 7, 3) := by decide +kernel
theorem dX0_giveElement_45 : decode cX0_giveElement 45 = .ok (.iconst 1, 1) := by decide +kernel
theorem dX0_giveElement_46 : decode cX0_giveElement 46 = .ok (.goto 4, 3) := by decide +kernel
theorem dX0_giveElement_49 : decode cX0_giveElement 49 = .ok (.iconst 0, 1) := by decide +kernel
theorem dX0_giveElement_50 : decode cX0_giveElement 50 = .ok (.invokevirtual 108, 3) := by decide +kernel
theorem dX0_giveElement_53 : decode cX0_giveElement 53 = .ok (.aload_n 0, 1) := by decide +kernel
theorem dX0_giveElement_54 : decode cX0_giveElement 54 = .ok (.getfield 46, 3) := by decide +kernel
theorem dX0_giveElement_57 : decode cX0_giveElement 57 = .ok (.ifCond .ne 29, 3) := by decide +kernel
theorem dX0_giveElement_60 : decode cX0_giveElement 60 = .ok (.aload_n 0, 1) := by decide +kernel
theorem dX0_giveElement_61 : decode cX0_giveElement 61 = .ok (.getfield 14, 3) := by decide +kernel
theorem dX0_giveElement_64 : decode cX0_giveElement 64 = .ok (.aload_n 1, 1) := by decide +kernel
theorem dX0_giveElement_65 : decode cX0_giveElement 65 = .ok (.aload_n 0, 1) := by decide +kernel
theorem dX0_giveElement_66 : decode cX0_giveElement 66 = .ok (.getfield 49, 3) := by decide +kernel
theorem dX0_giveElement_69 : decode cX0_giveElement 69 = .ok (.iload_n 2, 1) := by decide +kernel
theorem dX0_giveElement_70 : decode cX0_giveElement 70 = .ok (.invokevirtual 112, 3) := by decide +kernel
theorem dX0_giveElement_73 : decode cX0_giveElement 73 = .ok (.aload_n 0, 1) := by decide +kernel
theorem dX0_giveElement_74 : decode cX0_giveElement 74 = .ok (.aload_n 0, 1) := by decide +kernel
theorem dX0_giveElement_75 : decode cX0_giveElement 75 = .ok (.getfield 49, 3) := by decide +kernel
theorem dX0_giveElement_78 : decode cX0_giveElement 78 = .ok (.iload_n 2, 1) := by decide +kernel
theorem dX0_giveElement_79 : decode cX0_giveElement 79 = .ok (.iadd, 1) := by decide +kernel
theorem dX0_giveElement_80 : decode cX0_giveElement 80 = .ok (.putfield 40, 3) := by decide +kernel
theorem dX0_giveElement_83 : decode cX0_giveElement 83 = .ok (.goto 28, 3) := by decide +kernel
theorem dX0_giveElement_86 : decode cX0_giveElement 86 = .ok (.aload_n 0, 1) := by decide +kernel
theorem dX0_giveElement_87 : decode cX0_giveElement 87 = .ok (.getfield 14, 3) := by decide +kernel
theorem dX0_giveElement_90 : decode cX0_giveElement 90 = .ok (.aload_n 0, 1) := by decide +kernel
theorem dX0_giveElement_91 : decode cX0_giveElement 91 = .ok (.getfield 14, 3) := by decide +kernel
theorem dX0_giveElement_94 : decode cX0_giveElement 94 = .ok (.getfield 78, 3) := by decide +kernel
theorem dX0_giveElement_97 : decode cX0_giveElement 97 = .ok (.iload_n 3, 1) := by decide +kernel
theorem dX0_giveElement_98 : decode cX0_giveElement 98 = .ok (.isub, 1) := by decide +kernel
theorem dX0_giveElement_99 : decode cX0_giveElement 99 = .ok (.iload_n 2, 1) := by decide +kernel
theorem dX0_giveElement_100 : decode cX0_giveElement 100 = .ok (.invokevirtual 116, 3) := by decide +kernel
theorem dX0_giveElement_103 : decode cX0_giveElement 103 = .ok (.aload_n 0, 1) := by decide +kernel
theorem dX0_giveElement_104 : decode cX0_giveElement 104 = .ok (.aload_n 0, 1) := by decide +kernel
theorem dX0_giveElement_105 : decode cX0_giveElement 105 = .ok (.getfield 49, 3) := by decide +kernel
theorem dX0_giveElement_108 : decode cX0_giveElement 108 = .ok (.putfield 40, 3) := by decide +kernel
theorem dX0_giveElement_111 : decode cX0_giveElement 111 = .ok (.return_, 1) := by decide +kernel
theorem dX1_init_0 : decode cX1_init 0 = .ok (.aload_n 0, 1) := by decide +kernel
theorem dX1_init_1 : decode cX1_init 1 = .ok (.invokespecial 3, 3) := by decide +kernel
theorem dX1_init_4 : decode cX1_init 4 = .ok (.aload_n 0, 1) := by decide +kernel
theorem dX1_init_5 : decode cX1_init 5 = .ok (.iconst 0, 1) := by decide +kernel
theorem dX1_init_6 : decode cX1_init 6 = .ok (.putfield 9, 3) := by decide +kernel
theorem dX1_init_9 : decode cX1_init 9 = .ok (.aload_n 0, 1) := by decide +kernel
theorem dX1_init_10 : decode cX1_init 10 = .ok (.iload_n 1, 1) := by decide +kernel
theorem dX1_init_11 : decode cX1_init 11 = .ok (.iconst 0, 1) := by decide +kernel
theorem dX1_init_12 : decode cX1_init 12 = .ok (.invokestatic 15, 3) := by decide +kernel
theorem dX1_init_15 : decode cX1_init 15 = .ok (.newarray .int, 2) := by decide +kernel
theorem dX1_init_17 : decode cX1_init 17 = .ok (.putfield 21, 3) := by decide +kernel
theorem dX1_init_20 : decode cX1_init 20 = .ok (.return_, 1) := by decide +kernel
theorem dX1_hasRoomFor_0 : decode cX1_hasRoomFor 0 = .ok (.iload_n 1, 1) := by decide +kernel
theorem dX1_hasRoomFor_1 : decode cX1_hasRoomFor 1 = .ok (.ifCond .lt 21, 3) := by decide +kernel
theorem dX1_hasRoomFor_4 : decode cX1_hasRoomFor 4 = .ok (.iload_n 1, 1) := by decide +kernel
theorem dX1_hasRoomFor_5 : decode cX1_hasRoomFor 5 = .ok (.aload_n 0, 1) := by decide +kernel
theorem dX1_hasRoomFor_6 : decode cX1_hasRoomFor 6 = .ok (.getfield 21, 3) := by decide +kernel
theorem dX1_hasRoomFor_9 : decode cX1_hasRoomFor 9 = .ok (.arraylength, 1) := by decide +kernel
theorem dX1_hasRoomFor_10 : decode cX1_hasRoomFor 10 = .ok (.aload_n 0, 1) := by decide +kernel
theorem dX1_hasRoomFor_11 : decode cX1_hasRoomFor 11 = .ok (.getfield 9, 3) := by decide +kernel
theorem dX1_hasRoomFor_14 : decode cX1_hasRoomFor 14 = .ok (.isub, 1) := by decide +kernel
theorem dX1_hasRoomFor_15 : decode cX1_hasRoomFor 15 = .ok (.if_icmp .gt 7, 3) := by decide +kernel
theorem dX1_hasRoomFor_18 : decode cX1_hasRoomFor 18 = .ok (.iconst 1, 1) := by decide +kernel
theorem dX1_hasRoomFor_19 : decode cX1_hasRoomFor 19 = .ok (.goto 4, 3) := by decide +kernel
theorem dX1_hasRoomFor_22 : decode cX1_hasRoomFor 22 = .ok (.iconst 0, 1) := by decide +kernel
theorem dX1_hasRoomFor_23 : decode cX1_hasRoomFor 23 = .ok (.ireturn, 1) := by decide +kernel
theorem dX1_hasPlace_0 : decode cX1_hasPlace 0 = .ok (.iload_n 1, 1) := by decide +kernel
theorem dX1_hasPlace_1 : decode cX1_hasPlace 1 = .ok (.ifCond .lt 15, 3) := by decide +kernel
theorem dX1_hasPlace_4 : decode cX1_hasPlace 4 = .ok (.iload_n 1, 1) := by decide +kernel
theorem dX1_hasPlace_5 : decode cX1_hasPlace 5 = .ok (.aload_n 0, 1) := by decide +kernel
theorem dX1_hasPlace_6 : decode cX1_hasPlace 6 = .ok (.getfield 9, 3) := by decide +kernel
theorem dX1_hasPlace_9 : decode cX1_hasPlace 9 = .ok (.if_icmp .ge 7, 3) := by decide +kernel
theorem dX1_hasPlace_12 : decode cX1_hasPlace 12 = .ok (.iconst 1, 1) := by decide +kernel
theorem dX1_hasPlace_13 : decode cX1_hasPlace 13 = .ok (.goto 4, 3) := by decide +kernel
theorem dX1_hasPlace_16 : decode cX1_hasPlace 16 = .ok (.iconst 0, 1) := by decide +kernel
theorem dX1_hasPlace_17 : decode cX1_hasPlace 17 = .ok (.ireturn, 1) := by decide +kernel
theorem dX1_has_0 : decode cX1_has 0 = .ok (.iload_n 1, 1) := by decide +kernel
theorem dX1_has_1 : decode cX1_has 1 = .ok (.ifCond .lt 21, 3) := by decide +kernel
theorem dX1_has_4 : decode cX1_has 4 = .ok (.iload_n 2, 1) := by decide +kernel
theorem dX1_has_5 : decode cX1_has 5 = .ok (.ifCond .lt 17, 3) := by decide +kernel
theorem dX1_has_8 : decode cX1_has 8 = .ok (.iload_n 1, 1) := by decide +kernel
theorem dX1_has_9 : decode cX1_has 9 = .ok (.aload_n 0, 1) := by decide +kernel
theorem dX1_has_10 : decode cX1_has 10 = .ok (.getfield 9, 3) := by decide +kernel
theorem dX1_has_13 : decode cX1_has 13 = .ok (.iload_n 2, 1) := by decide +kernel
theorem dX1_has_14 : decode cX1_has 14 = .ok (.isub, 1) := by decide +kernel
theorem dX1_has_15 : decode cX1_has 15 = .ok (.if_icmp .gt 7, 3) := by decide +kernel
theorem dX1_has_18 : decode cX1_has 18 = .ok (.iconst 1, 1) := by decide +kernel
theorem dX1_has_19 : decode cX1_has 19 = .ok (.goto 4, 3) := by decide +kernel
theorem dX1_has_22 : decode cX1_has 22 = .ok (.iconst 0, 1) := by decide +kernel
theorem dX1_has_23 : decode cX1_has 23 = .ok (.ireturn, 1) := by decide +kernel
theorem dX1_at_0 : decode cX1_at 0 = .ok (.iload_n 1, 1) := by decide +kernel
theorem dX1_at_1 : decode cX1_at 1 = .ok (.ifCond .lt 20, 3) := by decide +kernel
theorem dX1_at_4 : decode cX1_at 4 = .ok (.iload_n 1, 1) := by decide +kernel
theorem dX1_at_5 : decode cX1_at 5 = .ok (.aload_n 0, 1) := by decide +kernel
theorem dX1_at_6 : decode cX1_at 6 = .ok (.getfield 9, 3) := by decide +kernel
theorem dX1_at_9 : decode cX1_at 9 = .ok (.if_icmp .ge 12, 3) := by decide +kernel
theorem dX1_at_12 : decode cX1_at 12 = .ok (.aload_n 0, 1) := by decide +kernel
theorem dX1_at_13 : decode cX1_at 13 = .ok (.getfield 21, 3) := by decide +kernel
theorem dX1_at_16 : decode cX1_at 16 = .ok (.iload_n 1, 1) := by decide +kernel
theorem dX1_at_17 : decode cX1_at 17 = .ok (.iaload, 1) := by decide +kernel
theorem dX1_at_18 : decode cX1_at 18 = .ok (.goto 4, 3) := by decide +kernel
theorem dX1_at_21 : decode cX1_at 21 = .ok (.iconst (-1), 1) := by decide +kernel
theorem dX1_at_22 : decode cX1_at 22 = .ok (.ireturn, 1) := by decide +kernel
theorem dX1_change_0 : decode cX1_change 0 = .ok (.aload_n 0, 1) := by decide +kernel
theorem dX1_change_1 : decode cX1_change 1 = .ok (.iload_n 1, 1) := by decide +kernel
theorem dX1_change_2 : decode cX1_change 2 = .ok (.invokevirtual 25, 3) := by decide +kernel
theorem dX1_change_5 : decode cX1_change 5 = .ok (.ifCond .eq 10, 3) := by decide +kernel
theorem dX1_change_8 : decode cX1_change 8 = .ok (.aload_n 0, 1) := by decide +kernel
theorem dX1_change_9 : decode cX1_change 9 = .ok (.getfield 21, 3) := by decide +kernel
theorem dX1_change_12 : decode cX1_change 12 = .ok (.iload_n 1, 1) := by decide +kernel
theorem dX1_change_13 : decode cX1_change 13 = .ok (.iload_n 2, 1) := by decide +kernel
theorem dX1_change_14 : decode cX1_change 14 = .ok (.iastore, 1) := by decide +kernel
theorem dX1_change_15 : decode cX1_change 15 = .ok (.return_, 1) := by decide +kernel
theorem dX1_shorten_0 : decode cX1_shorten 0 = .ok (.aload_n 0, 1) := by decide +kernel
theorem dX1_shorten_1 : decode cX1_shorten 1 = .ok (.iconst 0, 1) := by decide +kernel
theorem dX1_shorten_2 : decode cX1_shorten 2 = .ok (.iload_n 1, 1) := by decide +kernel
theorem dX1_shorten_3 : decode cX1_shorten 3 = .ok (.invokevirtual 29, 3) := by decide +kernel
theorem dX1_shorten_6 : decode cX1_shorten 6 = .ok (.ifCond .eq 8, 3) := by decide +kernel
theorem dX1_shorten_9 : decode cX1_shorten 9 = .ok (.aload_n 0, 1) := by decide +kernel
theorem dX1_shorten_10 : decode cX1_shorten 10 = .ok (.iload_n 1, 1) := by decide +kernel
theorem dX1_shorten_11 : decode cX1_shorten 11 = .ok (.putfield 9, 3) := by decide +kernel
theorem dX1_shorten_14 : decode cX1_shorten 14 = .ok (.return_, 1) := by decide +kernel
theorem dX1_put_0 : decode cX1_put 0 = .ok (.aload_n 0, 1) := by decide +kernel
theorem dX1_put_1 : decode cX1_put 1 = .ok (.getfield 9, 3) := by decide +kernel
theorem dX1_put_4 : decode cX1_put 4 = .ok (.aload_n 0, 1) := by decide +kernel
theorem dX1_put_5 : decode cX1_put 5 = .ok (.getfield 21, 3) := by decide +kernel
theorem dX1_put_8 : decode cX1_put 8 = .ok (.arraylength, 1) := by decide +kernel
theorem dX1_put_9 : decode cX1_put 9 = .ok (.if_icmp .ge 23, 3) := by decide +kernel
theorem dX1_put_12 : decode cX1_put 12 = .ok (.aload_n 0, 1) := by decide +kernel
theorem dX1_put_13 : decode cX1_put 13 = .ok (.getfield 21, 3) := by decide +kernel
theorem dX1_put_16 : decode cX1_put 16 = .ok (.aload_n 0, 1) := by decide +kernel
theorem dX1_put_17 : decode cX1_put 17 = .ok (.getfield 9, 3) := by decide +kernel
theorem dX1_put_20 : decode cX1_put 20 = .ok (.iload_n 1, 1) := by decide +kernel
theorem dX1_put_21 : decode cX1_put 21 = .ok (.iastore, 1) := by decide +kernel
theorem dX1_put_22 : decode cX1_put 22 = .ok (.aload_n 0, 1) := by decide +kernel
theorem dX1_put_23 : decode cX1_put 23 = .ok (.dup, 1) := by decide +kernel
theorem dX1_put_24 : decode cX1_put 24 = .ok (.getfield 9, 3) := by decide +kernel
theorem dX1_put_27 : decode cX1_put 27 = .ok (.iconst 1, 1) := by decide +kernel
theorem dX1_put_28 : decode cX1_put 28 = .ok (.iadd, 1) := by decide +kernel
theorem dX1_put_29 : decode cX1_put 29 = .ok (.putfield 9, 3) := by decide +kernel
theorem dX1_put_32 : decode cX1_put 32 = .ok (.return_, 1) := by decide +kernel
theorem dX1_putHighestFirst_0 : decode cX1_putHighestFirst 0 = .ok (.aload_n 0, 1) := by decide +kernel
theorem dX1_putHighestFirst_1 : decode cX1_putHighestFirst 1 = .ok (.iload_n 1, 1) := by decide +kernel
theorem dX1_putHighestFirst_2 : decode cX1_putHighestFirst 2 = .ok (.bipush 24, 2) := by decide +kernel
theorem dX1_putHighestFirst_4 : decode cX1_putHighestFirst 4 = .ok (.iushr, 1) := by decide +kernel
theorem dX1_putHighestFirst_5 : decode cX1_putHighestFirst 5 = .ok (.invokevirtual 33, 3) := by decide +kernel
theorem dX1_putHighestFirst_8 : decode cX1_putHighestFirst 8 = .ok (.aload_n 0, 1) := by decide +kernel
theorem dX1_putHighestFirst_9 : decode cX1_putHighestFirst 9 = .ok (.iload_n 1, 1) := by decide +kernel
theorem dX1_putHighestFirst_10 : decode cX1_putHighestFirst 10 = .ok (.bipush 16, 2) := by decide +kernel
theorem dX1_putHighestFirst_12 : decode cX1_putHighestFirst 12 = .ok (.iushr, 1) := by decide +kernel
theorem dX1_putHighestFirst_13 : decode cX1_putHighestFirst 13 = .ok (.sipush 255, 3) := by decide +kernel
theorem dX1_putHighestFirst_16 : decode cX1_putHighestFirst 16 = .ok (.iand, 1) := by decide +kernel
theorem dX1_putHighestFirst_17 : decode cX1_putHighestFirst 17 = .ok (.invokevirtual 33, 3) := by decide +kernel
theorem dX1_putHighestFirst_20 : decode cX1_putHighestFirst 20 = .ok (.aload_n 0, 1) := by decide +kernel
theorem dX1_putHighestFirst_21 : decode cX1_putHighestFirst 21 = .ok (.iload_n 1, 1) := by decide +kernel
theorem dX1_putHighestFirst_22 : decode cX1_putHighestFirst 22 = .ok (.bipush 8, 2) := by decide +kernel
theorem dX1_putHighestFirst_24 : decode cX1_putHighestFirst 24 = .ok (.iushr, 1) := by decide +kernel
theorem dX1_putHighestFirst_25 : decode cX1_putHighestFirst 25 = .ok (.sipush 255, 3) := by decide +kernel
theorem dX1_putHighestFirst_28 : decode cX1_putHighestFirst 28 = .ok (.iand, 1) := by decide +kernel
theorem dX1_putHighestFirst_29 : decode cX1_putHighestFirst 29 = .ok (.invokevirtual 33, 3) := by decide +kernel
theorem dX1_putHighestFirst_32 : decode cX1_putHighestFirst 32 = .ok (.aload_n 0, 1) := by decide +kernel
theorem dX1_putHighestFirst_33 : decode cX1_putHighestFirst 33 = .ok (.iload_n 1, 1) := by decide +kernel
theorem dX1_putHighestFirst_34 : decode cX1_putHighestFirst 34 = .ok (.sipush 255, 3) := by decide +kernel
theorem dX1_putHighestFirst_37 : decode cX1_putHighestFirst 37 = .ok (.iand, 1) := by decide +kernel
theorem dX1_putHighestFirst_38 : decode cX1_putHighestFirst 38 = .ok (.invokevirtual 33, 3) := by decide +kernel
theorem dX1_putHighestFirst_41 : decode cX1_putHighestFirst 41 = .ok (.return_, 1) := by decide +kernel
theorem dX1_putLowestFirst_0 : decode cX1_putLowestFirst 0 = .ok (.iconst 0, 1) := by decide +kernel
theorem dX1_putLowestFirst_1 : decode cX1_putLowestFirst 1 = .ok (.istore_n 3, 1) := by decide +kernel
theorem dX1_putLowestFirst_2 : decode cX1_putLowestFirst 2 = .ok (.iload_n 3, 1) := by decide +kernel
theorem dX1_putLowestFirst_3 : decode cX1_putLowestFirst 3 = .ok (.iload_n 2, 1) := by decide +kernel
theorem dX1_putLowestFirst_4 : decode cX1_putLowestFirst 4 = .ok (.if_icmp .ge 23, 3) := by decide +kernel
theorem dX1_putLowestFirst_7 : decode cX1_putLowestFirst 7 = .ok (.aload_n 0, 1) := by decide +kernel
theorem dX1_putLowestFirst_8 : decode cX1_putLowestFirst 8 = .ok (.iload_n 1, 1) := by decide +kernel
theorem dX1_putLowestFirst_9 : decode cX1_putLowestFirst 9 = .ok (.bipush 8, 2) := by decide +kernel
theorem dX1_putLowestFirst_11 : decode cX1_putLowestFirst 11 = .ok (.iload_n 3, 1) := by decide +kernel
theorem dX1_putLowestFirst_12 : decode cX1_putLowestFirst 12 = .ok (.imul, 1) := by decide +kernel
theorem dX1_putLowestFirst_13 : decode cX1_putLowestFirst 13 = .ok (.iushr, 1) := by decide +kernel
theorem dX1_putLowestFirst_14 : decode cX1_putLowestFirst 14 = .ok (.sipush 255, 3) := by decide +kernel
theorem dX1_putLowestFirst_17 : decode cX1_putLowestFirst 17 = .ok (.iand, 1) := by decide +kernel
theorem dX1_putLowestFirst_18 : decode cX1_putLowestFirst 18 = .ok (.invokevirtual 33, 3) := by decide +kernel
theorem dX1_putLowestFirst_21 : decode cX1_putLowestFirst 21 = .ok (.iinc 3 1, 3) := by decide +kernel
theorem dX1_putLowestFirst_24 : decode cX1_putLowestFirst 24 = .ok (.goto (-22), 3) := by decide +kernel
theorem dX1_putLowestFirst_27 : decode cX1_putLowestFirst 27 = .ok (.return_, 1) := by decide +kernel
theorem dX1_putAll_0 : decode cX1_putAll 0 = .ok (.aload_n 1, 1) := by decide +kernel
theorem dX1_putAll_1 : decode cX1_putAll 1 = .ok (.iload_n 2, 1) := by decide +kernel
theorem dX1_putAll_2 : decode cX1_putAll 2 = .ok (.iload_n 3, 1) := by decide +kernel
theorem dX1_putAll_3 : decode cX1_putAll 3 = .ok (.invokevirtual 29, 3) := by decide +kernel
theorem dX1_putAll_6 : decode cX1_putAll 6 = .ok (.ifCond .eq 38, 3) := by decide +kernel
theorem dX1_putAll_9 : decode cX1_putAll 9 = .ok (.aload_n 0, 1) := by decide +kernel
theorem dX1_putAll_10 : decode cX1_putAll 10 = .ok (.iload_n 3, 1) := by decide +kernel
theorem dX1_putAll_11 : decode cX1_putAll 11 = .ok (.invokevirtual 37, 3) := by decide +kernel
theorem dX1_putAll_14 : decode cX1_putAll 14 = .ok (.ifCond .eq 30, 3) := by decide +kernel
theorem dX1_putAll_17 : decode cX1_putAll 17 = .ok (.aload_n 1, 1) := by decide +kernel
theorem dX1_putAll_18 : decode cX1_putAll 18 = .ok (.getfield 21, 3) := by decide +kernel
theorem dX1_putAll_21 : decode cX1_putAll 21 = .ok (.iload_n 2, 1) := by decide +kernel
theorem dX1_putAll_22 : decode cX1_putAll 22 = .ok (.aload_n 0, 1) := by decide +kernel
theorem dX1_putAll_23 : decode cX1_putAll 23 = .ok (.getfield 21, 3) := by decide +kernel
theorem dX1_putAll_26 : decode cX1_putAll 26 = .ok (.aload_n 0, 1) := by decide +kernel
theorem dX1_putAll_27 : decode cX1_putAll 27 = .ok (.getfield 9, 3) := by decide +kernel
theorem dX1_putAll_30 : decode cX1_putAll 30 = .ok (.iload_n 3, 1) := by decide +kernel
theorem dX1_putAll_31 : decode cX1_putAll 31 = .ok (.invokestatic 40, 3) := by decide +kernel
theorem dX1_putAll_34 : decode cX1_putAll 34 = .ok (.aload_n 0, 1) := by decide +kernel
theorem dX1_putAll_35 : decode cX1_putAll 35 = .ok (.dup, 1) := by decide +kernel
theorem dX1_putAll_36 : decode cX1_putAll 36 = .ok (.getfield 9, 3) := by decide +kernel
theorem dX1_putAll_39 : decode cX1_putAll 39 = .ok (.iload_n 3, 1) := by decide +kernel
theorem dX1_putAll_40 : decode cX1_putAll 40 = .ok (.iadd, 1) := by decide +kernel
theorem dX1_putAll_41 : decode cX1_putAll 41 = .ok (.putfield 9, 3) := by decide +kernel
theorem dX1_putAll_44 : decode cX1_putAll 44 = .ok (.return_, 1) := by decide +kernel
theorem dX1_putOwn_0 : decode cX1_putOwn 0 = .ok (.aload_n 0, 1) := by decide +kernel
theorem dX1_putOwn_1 : decode cX1_putOwn 1 = .ok (.iload_n 1, 1) := by decide +kernel
theorem dX1_putOwn_2 : decode cX1_putOwn 2 = .ok (.invokevirtual 25, 3) := by decide +kernel
theorem dX1_putOwn_5 : decode cX1_putOwn 5 = .ok (.ifCond .eq 11, 3) := by decide +kernel
theorem dX1_putOwn_8 : decode cX1_putOwn 8 = .ok (.aload_n 0, 1) := by decide +kernel
theorem dX1_putOwn_9 : decode cX1_putOwn 9 = .ok (.iload_n 2, 1) := by decide +kernel
theorem dX1_putOwn_10 : decode cX1_putOwn 10 = .ok (.invokevirtual 37, 3) := by decide +kernel
theorem dX1_putOwn_13 : decode cX1_putOwn 13 = .ok (.ifCond .ne 4, 3) := by decide +kernel
theorem dX1_putOwn_16 : decode cX1_putOwn 16 = .ok (.return_, 1) := by decide +kernel
theorem dX1_putOwn_17 : decode cX1_putOwn 17 = .ok (.iconst 0, 1) := by decide +kernel
theorem dX1_putOwn_18 : decode cX1_putOwn 18 = .ok (.istore_n 3, 1) := by decide +kernel
theorem dX1_putOwn_19 : decode cX1_putOwn 19 = .ok (.iload_n 3, 1) := by decide +kernel
theorem dX1_putOwn_20 : decode cX1_putOwn 20 = .ok (.iload_n 2, 1) := by decide +kernel
theorem dX1_putOwn_21 : decode cX1_putOwn 21 = .ok (.if_icmp .ge 36, 3) := by decide +kernel
theorem dX1_putOwn_24 : decode cX1_putOwn 24 = .ok (.aload_n 0, 1) := by decide +kernel
theorem dX1_putOwn_25 : decode cX1_putOwn 25 = .ok (.getfield 21, 3) := by decide +kernel
theorem dX1_putOwn_28 : decode cX1_putOwn 28 = .ok (.aload_n 0, 1) := by decide +kernel
theorem dX1_putOwn_29 : decode cX1_putOwn 29 = .ok (.getfield 9, 3) := by decide +kernel
theorem dX1_putOwn_32 : decode cX1_putOwn 32 = .ok (.aload_n 0, 1) := by decide +kernel
theorem dX1_putOwn_33 : decode cX1_putOwn 33 = .ok (.getfield 21, 3) := by decide +kernel
theorem dX1_putOwn_36 : decode cX1_putOwn 36 = .ok (.iload_n 1, 1) := by decide +kernel
theorem dX1_putOwn_37 : decode cX1_putOwn 37 = .ok (.iload_n 3, 1) := by decide +kernel
theorem dX1_putOwn_38 : decode cX1_putOwn 38 = .ok (.iadd, 1) := by decide +kernel
theorem dX1_putOwn_39 : decode cX1_putOwn 39 = .ok (.iaload, 1) := by decide +kernel
theorem dX1_putOwn_40 : decode cX1_putOwn 40 = .ok (.iastore, 1) := by decide +kernel
theorem dX1_putOwn_41 : decode cX1_putOwn 41 = .ok (.aload_n 0, 1) := by decide +kernel
theorem dX1_putOwn_42 : decode cX1_putOwn 42 = .ok (.dup, 1) := by decide +kernel
theorem dX1_putOwn_43 : decode cX1_putOwn 43 = .ok (.getfield 9, 3) := by decide +kernel
theorem dX1_putOwn_46 : decode cX1_putOwn 46 = .ok (.iconst 1, 1) := by decide +kernel
theorem dX1_putOwn_47 : decode cX1_putOwn 47 = .ok (.iadd, 1) := by decide +kernel
theorem dX1_putOwn_48 : decode cX1_putOwn 48 = .ok (.putfield 9, 3) := by decide +kernel
theorem dX1_putOwn_51 : decode cX1_putOwn 51 = .ok (.iinc 3 1, 3) := by decide +kernel
theorem dX1_putOwn_54 : decode cX1_putOwn 54 = .ok (.goto (-35), 3) := by decide +kernel
theorem dX1_putOwn_57 : decode cX1_putOwn 57 = .ok (.return_, 1) := by decide +kernel
theorem dX1_become_0 : decode cX1_become 0 = .ok (.aload_n 0, 1) := by decide +kernel
theorem dX1_become_1 : decode cX1_become 1 = .ok (.iconst 0, 1) := by decide +kernel
theorem dX1_become_2 : decode cX1_become 2 = .ok (.putfield 9, 3) := by decide +kernel
theorem dX1_become_5 : decode cX1_become 5 = .ok (.aload_n 0, 1) := by decide +kernel
theorem dX1_become_6 : decode cX1_become 6 = .ok (.aload_n 1, 1) := by decide +kernel
theorem dX1_become_7 : decode cX1_become 7 = .ok (.iconst 0, 1) := by decide +kernel
theorem dX1_become_8 : decode cX1_become 8 = .ok (.aload_n 1, 1) := by decide +kernel
theorem dX1_become_9 : decode cX1_become 9 = .ok (.getfield 9, 3) := by decide +kernel
theorem dX1_become_12 : decode cX1_become 12 = .ok (.invokevirtual 46, 3) := by decide +kernel
theorem dX1_become_15 : decode cX1_become 15 = .ok (.return_, 1) := by decide +kernel
theorem dX1_lowestFirst_0 : decode cX1_lowestFirst 0 = .ok (.lconst 0, 1) := by decide +kernel
theorem dX1_lowestFirst_1 : decode cX1_lowestFirst 1 = .ok (.lstore_n 3, 1) := by decide +kernel
theorem dX1_lowestFirst_2 : decode cX1_lowestFirst 2 = .ok (.iconst 0, 1) := by decide +kernel
theorem dX1_lowestFirst_3 : decode cX1_lowestFirst 3 = .ok (.istore 5, 2) := by decide +kernel
theorem dX1_lowestFirst_5 : decode cX1_lowestFirst 5 = .ok (.iload 5, 2) := by decide +kernel
theorem dX1_lowestFirst_7 : decode cX1_lowestFirst 7 = .ok (.iload_n 2, 1) := by decide +kernel
theorem dX1_lowestFirst_8 : decode cX1_lowestFirst 8 = .ok (.if_icmp .ge 27, 3) := by decide +kernel
theorem dX1_lowestFirst_11 : decode cX1_lowestFirst 11 = .ok (.lload_n 3, 1) := by decide +kernel
theorem dX1_lowestFirst_12 : decode cX1_lowestFirst 12 = .ok (.aload_n 0, 1) := by decide +kernel
theorem dX1_lowestFirst_13 : decode cX1_lowestFirst 13 = .ok (.iload_n 1, 1) := by decide +kernel
theorem dX1_lowestFirst_14 : decode cX1_lowestFirst 14 = .ok (.iload 5, 2) := by decide +kernel
theorem dX1_lowestFirst_16 : decode cX1_lowestFirst 16 = .ok (.iadd, 1) := by decide +kernel
theorem dX1_lowestFirst_17 : decode cX1_lowestFirst 17 = .ok (.invokevirtual 50, 3) := by decide +kernel
theorem dX1_lowestFirst_20 : decode cX1_lowestFirst 20 = .ok (.i2l, 1) := by decide +kernel
theorem dX1_lowestFirst_21 : decode cX1_lowestFirst 21 = .ok (.bipush 8, 2) := by decide +kernel
theorem dX1_lowestFirst_23 : decode cX1_lowestFirst 23 = .ok (.iload 5, 2) := by decide +kernel
theorem dX1_lowestFirst_25 : decode cX1_lowestFirst 25 = .ok (.imul, 1) := by decide +kernel
theorem dX1_lowestFirst_26 : decode cX1_lowestFirst 26 = .ok (.lshl, 1) := by decide +kernel
theorem dX1_lowestFirst_27 : decode cX1_lowestFirst 27 = .ok (.lor, 1) := by decide +kernel
theorem dX1_lowestFirst_28 : decode cX1_lowestFirst 28 = .ok (.lstore_n 3, 1) := by decide +kernel
theorem dX1_lowestFirst_29 : decode cX1_lowestFirst 29 = .ok (.iinc 5 1, 3) := by decide +kernel
theorem dX1_lowestFirst_32 : decode cX1_lowestFirst 32 = .ok (.goto (-27), 3) := by decide +kernel
theorem dX1_lowestFirst_35 : decode cX1_lowestFirst 35 = .ok (.lload_n 3, 1) := by decide +kernel
theorem dX1_lowestFirst_36 : decode cX1_lowestFirst 36 = .ok (.lreturn, 1) := by decide +kernel
theorem dX1_fourFrom_0 : decode cX1_fourFrom 0 = .ok (.aload_n 0, 1) := by decide +kernel
theorem dX1_fourFrom_1 : decode cX1_fourFrom 1 = .ok (.iload_n 1, 1) := by decide +kernel
theorem dX1_fourFrom_2 : decode cX1_fourFrom 2 = .ok (.iconst 4, 1) := by decide +kernel
theorem dX1_fourFrom_3 : decode cX1_fourFrom 3 = .ok (.invokevirtual 29, 3) := by decide +kernel
theorem dX1_fourFrom_6 : decode cX1_fourFrom 6 = .ok (.ifCond .ne 5, 3) := by decide +kernel
theorem dX1_fourFrom_9 : decode cX1_fourFrom 9 = .ok (.iconst (-1), 1) := by decide +kernel
theorem dX1_fourFrom_10 : decode cX1_fourFrom 10 = .ok (.ireturn, 1) := by decide +kernel
theorem dX1_fourFrom_11 : decode cX1_fourFrom 11 = .ok (.aload_n 0, 1) := by decide +kernel
theorem dX1_fourFrom_12 : decode cX1_fourFrom 12 = .ok (.getfield 21, 3) := by decide +kernel
theorem dX1_fourFrom_15 : decode cX1_fourFrom 15 = .ok (.iload_n 1, 1) := by decide +kernel
theorem dX1_fourFrom_16 : decode cX1_fourFrom 16 = .ok (.iaload, 1) := by decide +kernel
theorem dX1_fourFrom_17 : decode cX1_fourFrom 17 = .ok (.aload_n 0, 1) := by decide +kernel
theorem dX1_fourFrom_18 : decode cX1_fourFrom 18 = .ok (.getfield 21, 3) := by decide +kernel
theorem dX1_fourFrom_21 : decode cX1_fourFrom 21 = .ok (.iload_n 1, 1) := by decide +kernel
theorem dX1_fourFrom_22 : decode cX1_fourFrom 22 = .ok (.iconst 1, 1) := by decide +kernel
theorem dX1_fourFrom_23 : decode cX1_fourFrom 23 = .ok (.iadd, 1) := by decide +kernel
theorem dX1_fourFrom_24 : decode cX1_fourFrom 24 = .ok (.iaload, 1) := by decide +kernel
theorem dX1_fourFrom_25 : decode cX1_fourFrom 25 = .ok (.bipush 8, 2) := by decide +kernel
theorem dX1_fourFrom_27 : decode cX1_fourFrom 27 = .ok (.ishl, 1) := by decide +kernel
theorem dX1_fourFrom_28 : decode cX1_fourFrom 28 = .ok (.ior, 1) := by decide +kernel
theorem dX1_fourFrom_29 : decode cX1_fourFrom 29 = .ok (.aload_n 0, 1) := by decide +kernel
theorem dX1_fourFrom_30 : decode cX1_fourFrom 30 = .ok (.getfield 21, 3) := by decide +kernel
theorem dX1_fourFrom_33 : decode cX1_fourFrom 33 = .ok (.iload_n 1, 1) := by decide +kernel
theorem dX1_fourFrom_34 : decode cX1_fourFrom 34 = .ok (.iconst 2, 1) := by decide +kernel
theorem dX1_fourFrom_35 : decode cX1_fourFrom 35 = .ok (.iadd, 1) := by decide +kernel
theorem dX1_fourFrom_36 : decode cX1_fourFrom 36 = .ok (.iaload, 1) := by decide +kernel
theorem dX1_fourFrom_37 : decode cX1_fourFrom 37 = .ok (.bipush 16, 2) := by decide +kernel
theorem dX1_fourFrom_39 : decode cX1_fourFrom 39 = .ok (.ishl, 1) := by decide +kernel
theorem dX1_fourFrom_40 : decode cX1_fourFrom 40 = .ok (.ior, 1) := by decide +kernel
theorem dX1_fourFrom_41 : decode cX1_fourFrom 41 = .ok (.aload_n 0, 1) := by decide +kernel
theorem dX1_fourFrom_42 : decode cX1_fourFrom 42 = .ok (.getfield 21, 3) := by decide +kernel
theorem dX1_fourFrom_45 : decode cX1_fourFrom 45 = .ok (.iload_n 1, 1) := by decide +kernel
theorem dX1_fourFrom_46 : decode cX1_fourFrom 46 = .ok (.iconst 3, 1) := by decide +kernel
theorem dX1_fourFrom_47 : decode cX1_fourFrom 47 = .ok (.iadd, 1) := by decide +kernel
theorem dX1_fourFrom_48 : decode cX1_fourFrom 48 = .ok (.iaload, 1) := by decide +kernel
theorem dX1_fourFrom_49 : decode cX1_fourFrom 49 = .ok (.bipush 24, 2) := by decide +kernel
theorem dX1_fourFrom_51 : decode cX1_fourFrom 51 = .ok (.ishl, 1) := by decide +kernel
theorem dX1_fourFrom_52 : decode cX1_fourFrom 52 = .ok (.ior, 1) := by decide +kernel
theorem dX1_fourFrom_53 : decode cX1_fourFrom 53 = .ok (.ireturn, 1) := by decide +kernel
theorem dX1_crc_0 : decode cX1_crc 0 = .ok (.aload_n 0, 1) := by decide +kernel
theorem dX1_crc_1 : decode cX1_crc 1 = .ok (.iload_n 1, 1) := by decide +kernel
theorem dX1_crc_2 : decode cX1_crc 2 = .ok (.iload_n 2, 1) := by decide +kernel
theorem dX1_crc_3 : decode cX1_crc 3 = .ok (.invokevirtual 29, 3) := by decide +kernel
theorem dX1_crc_6 : decode cX1_crc 6 = .ok (.ifCond .ne 5, 3) := by decide +kernel
theorem dX1_crc_9 : decode cX1_crc 9 = .ok (.iconst 0, 1) := by decide +kernel
theorem dX1_crc_10 : decode cX1_crc 10 = .ok (.ireturn, 1) := by decide +kernel
theorem dX1_crc_11 : decode cX1_crc 11 = .ok (.iconst (-1), 1) := by decide +kernel
theorem dX1_crc_12 : decode cX1_crc 12 = .ok (.istore_n 3, 1) := by decide +kernel
theorem dX1_crc_13 : decode cX1_crc 13 = .ok (.iconst 0, 1) := by decide +kernel
theorem dX1_crc_14 : decode cX1_crc 14 = .ok (.istore 4, 2) := by decide +kernel
theorem dX1_crc_16 : decode cX1_crc 16 = .ok (.iload 4, 2) := by decide +kernel
theorem dX1_crc_18 : decode cX1_crc 18 = .ok (.iload_n 2, 1) := by decide +kernel
theorem dX1_crc_19 : decode cX1_crc 19 = .ok (.if_icmp .ge 47, 3) := by decide +kernel
theorem dX1_crc_22 : decode cX1_crc 22 = .ok (.iload_n 3, 1) := by decide +kernel
theorem dX1_crc_23 : decode cX1_crc 23 = .ok (.aload_n 0, 1) := by decide +kernel
theorem dX1_crc_24 : decode cX1_crc 24 = .ok (.getfield 21, 3) := by decide +kernel
theorem dX1_crc_27 : decode cX1_crc 27 = .ok (.iload_n 1, 1) := by decide +kernel
theorem dX1_crc_28 : decode cX1_crc 28 = .ok (.iload 4, 2) := by decide +kernel
theorem dX1_crc_30 : decode cX1_crc 30 = .ok (.iadd, 1) := by decide +kernel
theorem dX1_crc_31 : decode cX1_crc 31 = .ok (.iaload, 1) := by decide +kernel
theorem dX1_crc_32 : decode cX1_crc 32 = .ok (.ixor, 1) := by decide +kernel
theorem dX1_crc_33 : decode cX1_crc 33 = .ok (.istore_n 3, 1) := by decide +kernel
theorem dX1_crc_34 : decode cX1_crc 34 = .ok (.iload_n 3, 1) := by decide +kernel
theorem dX1_crc_35 : decode cX1_crc 35 = .ok (.iconst 4, 1) := by decide +kernel
theorem dX1_crc_36 : decode cX1_crc 36 = .ok (.iushr, 1) := by decide +kernel
theorem dX1_crc_37 : decode cX1_crc 37 = .ok (.getstatic 54, 3) := by decide +kernel
theorem dX1_crc_40 : decode cX1_crc 40 = .ok (.iload_n 3, 1) := by decide +kernel
theorem dX1_crc_41 : decode cX1_crc 41 = .ok (.bipush 15, 2) := by decide +kernel
theorem dX1_crc_43 : decode cX1_crc 43 = .ok (.iand, 1) := by decide +kernel
theorem dX1_crc_44 : decode cX1_crc 44 = .ok (.iaload, 1) := by decide +kernel
theorem dX1_crc_45 : decode cX1_crc 45 = .ok (.ixor, 1) := by decide +kernel
theorem dX1_crc_46 : decode cX1_crc 46 = .ok (.istore_n 3, 1) := by decide +kernel
theorem dX1_crc_47 : decode cX1_crc 47 = .ok (.iload_n 3, 1) := by decide +kernel
theorem dX1_crc_48 : decode cX1_crc 48 = .ok (.iconst 4, 1) := by decide +kernel
theorem dX1_crc_49 : decode cX1_crc 49 = .ok (.iushr, 1) := by decide +kernel
theorem dX1_crc_50 : decode cX1_crc 50 = .ok (.getstatic 54, 3) := by decide +kernel
theorem dX1_crc_53 : decode cX1_crc 53 = .ok (.iload_n 3, 1) := by decide +kernel
theorem dX1_crc_54 : decode cX1_crc 54 = .ok (.bipush 15, 2) := by decide +kernel
theorem dX1_crc_56 : decode cX1_crc 56 = .ok (.iand, 1) := by decide +kernel
theorem dX1_crc_57 : decode cX1_crc 57 = .ok (.iaload, 1) := by decide +kernel
theorem dX1_crc_58 : decode cX1_crc 58 = .ok (.ixor, 1) := by decide +kernel
theorem dX1_crc_59 : decode cX1_crc 59 = .ok (.istore_n 3, 1) := by decide +kernel
theorem dX1_crc_60 : decode cX1_crc 60 = .ok (.iinc 4 1, 3) := by decide +kernel
theorem dX1_crc_63 : decode cX1_crc 63 = .ok (.goto (-47), 3) := by decide +kernel
theorem dX1_crc_66 : decode cX1_crc 66 = .ok (.iload_n 3, 1) := by decide +kernel
theorem dX1_crc_67 : decode cX1_crc 67 = .ok (.iconst (-1), 1) := by decide +kernel
theorem dX1_crc_68 : decode cX1_crc 68 = .ok (.ixor, 1) := by decide +kernel
theorem dX1_crc_69 : decode cX1_crc 69 = .ok (.ireturn, 1) := by decide +kernel
theorem dX1_maskedCrc_0 : decode cX1_maskedCrc 0 = .ok (.aload_n 0, 1) := by decide +kernel
theorem dX1_maskedCrc_1 : decode cX1_maskedCrc 1 = .ok (.iload_n 1, 1) := by decide +kernel
theorem dX1_maskedCrc_2 : decode cX1_maskedCrc 2 = .ok (.iload_n 2, 1) := by decide +kernel
theorem dX1_maskedCrc_3 : decode cX1_maskedCrc 3 = .ok (.invokevirtual 57, 3) := by decide +kernel
theorem dX1_maskedCrc_6 : decode cX1_maskedCrc 6 = .ok (.bipush 17, 2) := by decide +kernel
theorem dX1_maskedCrc_8 : decode cX1_maskedCrc 8 = .ok (.invokestatic 60, 3) := by decide +kernel
theorem dX1_maskedCrc_11 : decode cX1_maskedCrc 11 = .ok (.ldc 65, 2) := by decide +kernel
theorem dX1_maskedCrc_13 : decode cX1_maskedCrc 13 = .ok (.iadd, 1) := by decide +kernel
theorem dX1_maskedCrc_14 : decode cX1_maskedCrc 14 = .ok (.ireturn, 1) := by decide +kernel
theorem dX2_init_0 : decode cX2_init 0 = .ok (.aload_n 0, 1) := by decide +kernel
theorem dX2_init_1 : decode cX2_init 1 = .ok (.invokespecial 3, 3) := by decide +kernel
theorem dX2_init_4 : decode cX2_init 4 = .ok (.aload_n 0, 1) := by decide +kernel
theorem dX2_init_5 : decode cX2_init 5 = .ok (.new 9, 3) := by decide +kernel
theorem dX2_init_8 : decode cX2_init 8 = .ok (.dup, 1) := by decide +kernel
theorem dX2_init_9 : decode cX2_init 9 = .ok (.sipush 24000, 3) := by decide +kernel
theorem dX2_init_12 : decode cX2_init 12 = .ok (.invokespecial 11, 3) := by decide +kernel
theorem dX2_init_15 : decode cX2_init 15 = .ok (.putfield 14, 3) := by decide +kernel
theorem dX2_init_18 : decode cX2_init 18 = .ok (.aload_n 0, 1) := by decide +kernel
theorem dX2_init_19 : decode cX2_init 19 = .ok (.ldc 20, 2) := by decide +kernel
theorem dX2_init_21 : decode cX2_init 21 = .ok (.newarray .int, 2) := by decide +kernel
theorem dX2_init_23 : decode cX2_init 23 = .ok (.putfield 21, 3) := by decide +kernel
theorem dX2_init_26 : decode cX2_init 26 = .ok (.aload_n 0, 1) := by decide +kernel
theorem dX2_init_27 : decode cX2_init 27 = .ok (.iconst 0, 1) := by decide +kernel
theorem dX2_init_28 : decode cX2_init 28 = .ok (.putfield 25, 3) := by decide +kernel
theorem dX2_init_31 : decode cX2_init 31 = .ok (.return_, 1) := by decide +kernel
theorem dX2_pressBlock_0 : decode cX2_pressBlock 0 = .ok (.aload_n 0, 1) := by decide +kernel
theorem dX2_pressBlock_1 : decode cX2_pressBlock 1 = .ok (.getfield 14, 3) := by decide +kernel
theorem dX2_pressBlock_4 : decode cX2_pressBlock 4 = .ok (.iconst 0, 1) := by decide +kernel
theorem dX2_pressBlock_5 : decode cX2_pressBlock 5 = .ok (.invokevirtual 29, 3) := by decide +kernel
theorem dX2_pressBlock_8 : decode cX2_pressBlock 8 = .ok (.aload_n 0, 1) := by decide +kernel
theorem dX2_pressBlock_9 : decode cX2_pressBlock 9 = .ok (.iload_n 3, 1) := by decide +kernel
theorem dX2_pressBlock_10 : decode cX2_pressBlock 10 = .ok (.invokevirtual 32, 3) := by decide +kernel
theorem dX2_pressBlock_13 : decode cX2_pressBlock 13 = .ok (.aload_n 0, 1) := by decide +kernel
theorem dX2_pressBlock_14 : decode cX2_pressBlock 14 = .ok (.iload_n 3, 1) := by decide +kernel
theorem dX2_pressBlock_15 : decode cX2_pressBlock 15 = .ok (.invokevirtual 35, 3) := by decide +kernel
theorem dX2_pressBlock_18 : decode cX2_pressBlock 18 = .ok (.iload_n 2, 1) := by decide +kernel
theorem dX2_pressBlock_19 : decode cX2_pressBlock 19 = .ok (.iload_n 3, 1) := by decide +kernel
theorem dX2_pressBlock_20 : decode cX2_pressBlock 20 = .ok (.iadd, 1) := by decide +kernel
theorem dX2_pressBlock_21 : decode cX2_pressBlock 21 = .ok (.istore 4, 2) := by decide +kernel
theorem dX2_pressBlock_23 : decode cX2_pressBlock 23 = .ok (.iload_n 2, 1) := by decide +kernel
theorem dX2_pressBlock_24 : decode cX2_pressBlock 24 = .ok (.istore 5, 2) := by decide +kernel
theorem dX2_pressBlock_26 : decode cX2_pressBlock 26 = .ok (.iload_n 2, 1) := by decide +kernel
theorem dX2_pressBlock_27 : decode cX2_pressBlock 27 = .ok (.istore 6, 2) := by decide +kernel
theorem dX2_pressBlock_29 : decode cX2_pressBlock 29 = .ok (.iload 6, 2) := by decide +kernel
theorem dX2_pressBlock_31 : decode cX2_pressBlock 31 = .ok (.iconst 4, 1) := by decide +kernel
theorem dX2_pressBlock_32 : decode cX2_pressBlock 32 = .ok (.iadd, 1) := by decide +kernel
theorem dX2_pressBlock_33 : decode cX2_pressBlock 33 = .ok (.iload 4, 2) := by decide +kernel
theorem dX2_pressBlock_35 : decode cX2_pressBlock 35 = .ok (.if_icmp .gt 73, 3) := by decide +kernel
theorem dX2_pressBlock_38 : decode cX2_pressBlock 38 = .ok (.aload_n 0, 1) := by decide +kernel
theorem dX2_pressBlock_39 : decode cX2_pressBlock 39 = .ok (.aload_n 1, 1) := by decide +kernel
theorem dX2_pressBlock_40 : decode cX2_pressBlock 40 = .ok (.iload 6, 2) := by decide +kernel
theorem dX2_pressBlock_42 : decode cX2_pressBlock 42 = .ok (.invokevirtual 38, 3) := by decide +kernel
theorem dX2_pressBlock_45 : decode cX2_pressBlock 45 = .ok (.istore 7, 2) := by decide +kernel
theorem dX2_pressBlock_47 : decode cX2_pressBlock 47 = .ok (.iload 7, 2) := by decide +kernel
theorem dX2_pressBlock_49 : decode cX2_pressBlock 49 = .ok (.iconst (-1), 1) := by decide +kernel
theorem dX2_pressBlock_50 : decode cX2_pressBlock 50 = .ok (.if_icmp .eq 52, 3) := by decide +kernel
theorem dX2_pressBlock_53 : decode cX2_pressBlock 53 = .ok (.iload 6, 2) := by decide +kernel
theorem dX2_pressBlock_55 : decode cX2_pressBlock 55 = .ok (.iload 5, 2) := by decide +kernel
theorem dX2_pressBlock_57 : decode cX2_pressBlock 57 = .ok (.if_icmp .lt 45, 3) := by decide +kernel
theorem dX2_pressBlock_60 : decode cX2_pressBlock 60 = .ok (.aload_n 1, 1) := by decide +kernel
theorem dX2_pressBlock_61 : decode cX2_pressBlock 61 = .ok (.iload 7, 2) := by decide +kernel
theorem dX2_pressBlock_63 : decode cX2_pressBlock 63 = .ok (.iload 6, 2) := by decide +kernel
theorem dX2_pressBlock_65 : decode cX2_pressBlock 65 = .ok (.iload 4, 2) := by decide +kernel
theorem dX2_pressBlock_67 : decode cX2_pressBlock 67 = .ok (.invokestatic 42, 3) := by decide +kernel
theorem dX2_pressBlock_70 : decode cX2_pressBlock 70 = .ok (.istore 8, 2) := by decide +kernel
theorem dX2_pressBlock_72 : decode cX2_pressBlock 72 = .ok (.aload_n 0, 1) := by decide +kernel
theorem dX2_pressBlock_73 : decode cX2_pressBlock 73 = .ok (.aload_n 1, 1) := by decide +kernel
theorem dX2_pressBlock_74 : decode cX2_pressBlock 74 = .ok (.iload 5, 2) := by decide +kernel
theorem dX2_pressBlock_76 : decode cX2_pressBlock 76 = .ok (.iload 6, 2) := by decide +kernel
theorem dX2_pressBlock_78 : decode cX2_pressBlock 78 = .ok (.iload 5, 2) := by decide +kernel
theorem dX2_pressBlock_80 : decode cX2_pressBlock 80 = .ok (.isub, 1) := by decide +kernel
theorem dX2_pressBlock_81 : decode cX2_pressBlock 81 = .ok (.invokevirtual 46, 3) := by decide +kernel
theorem dX2_pressBlock_84 : decode cX2_pressBlock 84 = .ok (.aload_n 0, 1) := by decide +kernel
theorem dX2_pressBlock_85 : decode cX2_pressBlock 85 = .ok (.iload 8, 2) := by decide +kernel
theorem dX2_pressBlock_87 : decode cX2_pressBlock 87 = .ok (.iload 6, 2) := by decide +kernel
theorem dX2_pressBlock_89 : decode cX2_pressBlock 89 = .ok (.iload 7, 2) := by decide +kernel
theorem dX2_pressBlock_91 : decode cX2_pressBlock 91 = .ok (.isub, 1) := by decide +kernel
theorem dX2_pressBlock_92 : decode cX2_pressBlock 92 = .ok (.invokevirtual 50, 3) := by decide +kernel
theorem dX2_pressBlock_95 : decode cX2_pressBlock 95 = .ok (.iload 6, 2) := by decide +kernel
theorem dX2_pressBlock_97 : decode cX2_pressBlock 97 = .ok (.iload 8, 2) := by decide +kernel
theorem dX2_pressBlock_99 : decode cX2_pressBlock 99 = .ok (.iadd, 1) := by decide +kernel
theorem dX2_pressBlock_100 : decode cX2_pressBlock 100 = .ok (.istore 5, 2) := by decide +kernel
theorem dX2_pressBlock_102 : decode cX2_pressBlock 102 = .ok (.iinc 6 1, 3) := by decide +kernel
theorem dX2_pressBlock_105 : decode cX2_pressBlock 105 = .ok (.goto (-76), 3) := by decide +kernel
theorem dX2_pressBlock_108 : decode cX2_pressBlock 108 = .ok (.aload_n 0, 1) := by decide +kernel
theorem dX2_pressBlock_109 : decode cX2_pressBlock 109 = .ok (.aload_n 1, 1) := by decide +kernel
theorem dX2_pressBlock_110 : decode cX2_pressBlock 110 = .ok (.iload 5, 2) := by decide +kernel
theorem dX2_pressBlock_112 : decode cX2_pressBlock 112 = .ok (.iload 4, 2) := by decide +kernel
theorem dX2_pressBlock_114 : decode cX2_pressBlock 114 = .ok (.iload 5, 2) := by decide +kernel
theorem dX2_pressBlock_116 : decode cX2_pressBlock 116 = .ok (.isub, 1) := by decide +kernel
theorem dX2_pressBlock_117 : decode cX2_pressBlock 117 = .ok (.invokevirtual 46, 3) := by decide +kernel
theorem dX2_pressBlock_120 : decode cX2_pressBlock 120 = .ok (.return_, 1) := by decide +kernel
theorem dX2_putLength_0 : decode cX2_putLength 0 = .ok (.iload_n 1, 1) := by decide +kernel
theorem dX2_putLength_1 : decode cX2_putLength 1 = .ok (.istore_n 2, 1) := by decide +kernel
theorem dX2_putLength_2 : decode cX2_putLength 2 = .ok (.iconst 0, 1) := by decide +kernel
theorem dX2_putLength_3 : decode cX2_putLength 3 = .ok (.istore_n 3, 1) := by decide +kernel
theorem dX2_putLength_4 : decode cX2_putLength 4 = .ok (.iload_n 3, 1) := by decide +kernel
theorem dX2_putLength_5 : decode cX2_putLength 5 = .ok (.iconst 5, 1) := by decide +kernel
theorem dX2_putLength_6 : decode cX2_putLength 6 = .ok (.if_icmp .ge 35, 3) := by decide +kernel
theorem dX2_putLength_9 : decode cX2_putLength 9 = .ok (.iload_n 2, 1) := by decide +kernel
theorem dX2_putLength_10 : decode cX2_putLength 10 = .ok (.bipush 127, 2) := by decide +kernel
theorem dX2_putLength_12 : decode cX2_putLength 12 = .ok (.if_icmp .le 29, 3) := by decide +kernel
theorem dX2_putLength_15 : decode cX2_putLength 15 = .ok (.aload_n 0, 1) := by decide +kernel
theorem dX2_putLength_16 : decode cX2_putLength 16 = .ok (.getfield 14, 3) := by decide +kernel
theorem dX2_putLength_19 : decode cX2_putLength 19 = .ok (.iload_n 2, 1) := by decide +kernel
theorem dX2_putLength_20 : decode cX2_putLength 20 = .ok (.bipush 127, 2) := by decide +kernel
theorem dX2_putLength_22 : decode cX2_putLength 22 = .ok (.iand, 1) := by decide +kernel
theorem dX2_putLength_23 : decode cX2_putLength 23 = .ok (.sipush 128, 3) := by decide +kernel
theorem dX2_putLength_26 : decode cX2_putLength 26 = .ok (.ior, 1) := by decide +kernel
theorem dX2_putLength_27 : decode cX2_putLength 27 = .ok (.invokevirtual 54, 3) := by decide +kernel
theorem dX2_putLength_30 : decode cX2_putLength 30 = .ok (.iload_n 2, 1) := by decide +kernel
theorem dX2_putLength_31 : decode cX2_putLength 31 = .ok (.bipush 7, 2) := by decide +kernel
theorem dX2_putLength_33 : decode cX2_putLength 33 = .ok (.iushr, 1) := by decide +kernel
theorem dX2_putLength_34 : decode cX2_putLength 34 = .ok (.istore_n 2, 1) := by decide +kernel
theorem dX2_putLength_35 : decode cX2_putLength 35 = .ok (.iinc 3 1, 3) := by decide +kernel
theorem dX2_putLength_38 : decode cX2_putLength 38 = .ok (.goto (-34), 3) := by decide +kernel
theorem dX2_putLength_41 : decode cX2_putLength 41 = .ok (.aload_n 0, 1) := by decide +kernel
theorem dX2_putLength_42 : decode cX2_putLength 42 = .ok (.getfield 14, 3) := by decide +kernel
theorem dX2_putLength_45 : decode cX2_putLength 45 = .ok (.iload_n 2, 1) := by decide +kernel
theorem dX2_putLength_46 : decode cX2_putLength 46 = .ok (.invokevirtual 54, 3) := by decide +kernel
theorem dX2_putLength_49 : decode cX2_putLength 49 = .ok (.return_, 1) := by decide +kernel
theorem dX2_freeSlots_0 : decode cX2_freeSlots 0 = .ok (.bipush 15, 2) := by decide +kernel
theorem dX2_freeSlots_2 : decode cX2_freeSlots 2 = .ok (.istore_n 2, 1) := by decide +kernel
theorem dX2_freeSlots_3 : decode cX2_freeSlots 3 = .ok (.iload_n 2, 1) := by decide +kernel
theorem dX2_freeSlots_4 : decode cX2_freeSlots 4 = .ok (.iload_n 1, 1) := by decide +kernel
theorem dX2_freeSlots_5 : decode cX2_freeSlots 5 = .ok (.iload_n 1, 1) := by decide +kernel
theorem dX2_freeSlots_6 : decode cX2_freeSlots 6 = .ok (.iconst 4, 1) := by decide +kernel
theorem dX2_freeSlots_7 : decode cX2_freeSlots 7 = .ok (.idiv, 1) := by decide +kernel
theorem dX2_freeSlots_8 : decode cX2_freeSlots 8 = .ok (.iadd, 1) := by decide +kernel
theorem dX2_freeSlots_9 : decode cX2_freeSlots 9 = .ok (.if_icmp .ge 19, 3) := by decide +kernel
theorem dX2_freeSlots_12 : decode cX2_freeSlots 12 = .ok (.iload_n 2, 1) := by decide +kernel
theorem dX2_freeSlots_13 : decode cX2_freeSlots 13 = .ok (.sipush 32767, 3) := by decide +kernel
theorem dX2_freeSlots_16 : decode cX2_freeSlots 16 = .ok (.if_icmp .ge 12, 3) := by decide +kernel
theorem dX2_freeSlots_19 : decode cX2_freeSlots 19 = .ok (.iconst 2, 1) := by decide +kernel
theorem dX2_freeSlots_20 : decode cX2_freeSlots 20 = .ok (.iload_n 2, 1) := by decide +kernel
theorem dX2_freeSlots_21 : decode cX2_freeSlots 21 = .ok (.imul, 1) := by decide +kernel
theorem dX2_freeSlots_22 : decode cX2_freeSlots 22 = .ok (.iconst 1, 1) := by decide +kernel
theorem dX2_freeSlots_23 : decode cX2_freeSlots 23 = .ok (.iadd, 1) := by decide +kernel
theorem dX2_freeSlots_24 : decode cX2_freeSlots 24 = .ok (.istore_n 2, 1) := by decide +kernel
theorem dX2_freeSlots_25 : decode cX2_freeSlots 25 = .ok (.goto (-22), 3) := by decide +kernel
