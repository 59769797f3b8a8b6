theorem dX2_freeSlots_28 : decode cX2_freeSlots 28 = .ok (.iconst 0, 1) := by decide +kernel
theorem dX2_freeSlots_29 : decode cX2_freeSlots 29 = .ok (.istore_n 3, 1) := by decide +kernel
theorem dX2_freeSlots_30 : decode cX2_freeSlots 30 = .ok (.iload_n 3, 1) := by decide +kernel
theorem dX2_freeSlots_31 : decode cX2_freeSlots 31 = .ok (.iload_n 2, 1) := by decide +kernel
theorem dX2_freeSlots_32 : decode cX2_freeSlots 32 = .ok (.if_icmp .gt 16, 3) := by decide +kernel
theorem dX2_freeSlots_35 : decode cX2_freeSlots 35 = .ok (.aload_n 0, 1) := by decide +kernel
theorem dX2_freeSlots_36 : decode cX2_freeSlots 36 = .ok (.getfield 21, 3) := by decide +kernel
theorem dX2_freeSlots_39 : decode cX2_freeSlots 39 = .ok (.iload_n 3, 1) := by decide +kernel
theorem dX2_freeSlots_40 : decode cX2_freeSlots 40 = .ok (.iconst 0, 1) := by decide +kernel
theorem dX2_freeSlots_41 : decode cX2_freeSlots 41 = .ok (.iastore, 1) := by decide +kernel
theorem dX2_freeSlots_42 : decode cX2_freeSlots 42 = .ok (.iinc 3 1, 3) := by decide +kernel
theorem dX2_freeSlots_45 : decode cX2_freeSlots 45 = .ok (.goto (-15), 3) := by decide +kernel
theorem dX2_freeSlots_48 : decode cX2_freeSlots 48 = .ok (.aload_n 0, 1) := by decide +kernel
theorem dX2_freeSlots_49 : decode cX2_freeSlots 49 = .ok (.iload_n 2, 1) := by decide +kernel
theorem dX2_freeSlots_50 : decode cX2_freeSlots 50 = .ok (.putfield 25, 3) := by decide +kernel
theorem dX2_freeSlots_53 : decode cX2_freeSlots 53 = .ok (.return_, 1) := by decide +kernel
theorem dX2_noteAndFind_0 : decode cX2_noteAndFind 0 = .ok (.aload_n 1, 1) := by decide +kernel
theorem dX2_noteAndFind_1 : decode cX2_noteAndFind 1 = .ok (.iload_n 2, 1) := by decide +kernel
theorem dX2_noteAndFind_2 : decode cX2_noteAndFind 2 = .ok (.invokevirtual 57, 3) := by decide +kernel
theorem dX2_noteAndFind_5 : decode cX2_noteAndFind 5 = .ok (.istore_n 3, 1) := by decide +kernel
theorem dX2_noteAndFind_6 : decode cX2_noteAndFind 6 = .ok (.iload_n 3, 1) := by decide +kernel
theorem dX2_noteAndFind_7 : decode cX2_noteAndFind 7 = .ok (.ldc 61, 2) := by decide +kernel
theorem dX2_noteAndFind_9 : decode cX2_noteAndFind 9 = .ok (.imul, 1) := by decide +kernel
theorem dX2_noteAndFind_10 : decode cX2_noteAndFind 10 = .ok (.bipush 15, 2) := by decide +kernel
theorem dX2_noteAndFind_12 : decode cX2_noteAndFind 12 = .ok (.iushr, 1) := by decide +kernel
theorem dX2_noteAndFind_13 : decode cX2_noteAndFind 13 = .ok (.aload_n 0, 1) := by decide +kernel
theorem dX2_noteAndFind_14 : decode cX2_noteAndFind 14 = .ok (.getfield 25, 3) := by decide +kernel
theorem dX2_noteAndFind_17 : decode cX2_noteAndFind 17 = .ok (.iand, 1) := by decide +kernel
theorem dX2_noteAndFind_18 : decode cX2_noteAndFind 18 = .ok (.istore 4, 2) := by decide +kernel
theorem dX2_noteAndFind_20 : decode cX2_noteAndFind 20 = .ok (.iconst 0, 1) := by decide +kernel
theorem dX2_noteAndFind_21 : decode cX2_noteAndFind 21 = .ok (.istore 5, 2) := by decide +kernel
theorem dX2_noteAndFind_23 : decode cX2_noteAndFind 23 = .ok (.iload 5, 2) := by decide +kernel
theorem dX2_noteAndFind_25 : decode cX2_noteAndFind 25 = .ok (.aload_n 0, 1) := by decide +kernel
theorem dX2_noteAndFind_26 : decode cX2_noteAndFind 26 = .ok (.getfield 25, 3) := by decide +kernel
theorem dX2_noteAndFind_29 : decode cX2_noteAndFind 29 = .ok (.if_icmp .gt 59, 3) := by decide +kernel
theorem dX2_noteAndFind_32 : decode cX2_noteAndFind 32 = .ok (.aload_n 0, 1) := by decide +kernel
theorem dX2_noteAndFind_33 : decode cX2_noteAndFind 33 = .ok (.getfield 21, 3) := by decide +kernel
theorem dX2_noteAndFind_36 : decode cX2_noteAndFind 36 = .ok (.iload 4, 2) := by decide +kernel
theorem dX2_noteAndFind_38 : decode cX2_noteAndFind 38 = .ok (.iaload, 1) := by decide +kernel
theorem dX2_noteAndFind_39 : decode cX2_noteAndFind 39 = .ok (.iconst 1, 1) := by decide +kernel
theorem dX2_noteAndFind_40 : decode cX2_noteAndFind 40 = .ok (.isub, 1) := by decide +kernel
theorem dX2_noteAndFind_41 : decode cX2_noteAndFind 41 = .ok (.istore 6, 2) := by decide +kernel
theorem dX2_noteAndFind_43 : decode cX2_noteAndFind 43 = .ok (.iload 6, 2) := by decide +kernel
theorem dX2_noteAndFind_45 : decode cX2_noteAndFind 45 = .ok (.ifCond .lt 13, 3) := by decide +kernel
theorem dX2_noteAndFind_48 : decode cX2_noteAndFind 48 = .ok (.aload_n 1, 1) := by decide +kernel
theorem dX2_noteAndFind_49 : decode cX2_noteAndFind 49 = .ok (.iload 6, 2) := by decide +kernel
theorem dX2_noteAndFind_51 : decode cX2_noteAndFind 51 = .ok (.invokevirtual 57, 3) := by decide +kernel
theorem dX2_noteAndFind_54 : decode cX2_noteAndFind 54 = .ok (.iload_n 3, 1) := by decide +kernel
theorem dX2_noteAndFind_55 : decode cX2_noteAndFind 55 = .ok (.if_icmp .ne 16, 3) := by decide +kernel
theorem dX2_noteAndFind_58 : decode cX2_noteAndFind 58 = .ok (.aload_n 0, 1) := by decide +kernel
theorem dX2_noteAndFind_59 : decode cX2_noteAndFind 59 = .ok (.getfield 21, 3) := by decide +kernel
theorem dX2_noteAndFind_62 : decode cX2_noteAndFind 62 = .ok (.iload 4, 2) := by decide +kernel
theorem dX2_noteAndFind_64 : decode cX2_noteAndFind 64 = .ok (.iload_n 2, 1) := by decide +kernel
theorem dX2_noteAndFind_65 : decode cX2_noteAndFind 65 = .ok (.iconst 1, 1) := by decide +kernel
theorem dX2_noteAndFind_66 : decode cX2_noteAndFind 66 = .ok (.iadd, 1) := by decide +kernel
theorem dX2_noteAndFind_67 : decode cX2_noteAndFind 67 = .ok (.iastore, 1) := by decide +kernel
theorem dX2_noteAndFind_68 : decode cX2_noteAndFind 68 = .ok (.iload 6, 2) := by decide +kernel
theorem dX2_noteAndFind_70 : decode cX2_noteAndFind 70 = .ok (.ireturn, 1) := by decide +kernel
theorem dX2_noteAndFind_71 : decode cX2_noteAndFind 71 = .ok (.iload 4, 2) := by decide +kernel
theorem dX2_noteAndFind_73 : decode cX2_noteAndFind 73 = .ok (.iconst 1, 1) := by decide +kernel
theorem dX2_noteAndFind_74 : decode cX2_noteAndFind 74 = .ok (.iadd, 1) := by decide +kernel
theorem dX2_noteAndFind_75 : decode cX2_noteAndFind 75 = .ok (.aload_n 0, 1) := by decide +kernel
theorem dX2_noteAndFind_76 : decode cX2_noteAndFind 76 = .ok (.getfield 25, 3) := by decide +kernel
theorem dX2_noteAndFind_79 : decode cX2_noteAndFind 79 = .ok (.iand, 1) := by decide +kernel
theorem dX2_noteAndFind_80 : decode cX2_noteAndFind 80 = .ok (.istore 4, 2) := by decide +kernel
theorem dX2_noteAndFind_82 : decode cX2_noteAndFind 82 = .ok (.iinc 5 1, 3) := by decide +kernel
theorem dX2_noteAndFind_85 : decode cX2_noteAndFind 85 = .ok (.goto (-62), 3) := by decide +kernel
theorem dX2_noteAndFind_88 : decode cX2_noteAndFind 88 = .ok (.iconst (-1), 1) := by decide +kernel
theorem dX2_noteAndFind_89 : decode cX2_noteAndFind 89 = .ok (.ireturn, 1) := by decide +kernel
theorem dX2_countAlike_0 : decode cX2_countAlike 0 = .ok (.iconst 0, 1) := by decide +kernel
theorem dX2_countAlike_1 : decode cX2_countAlike 1 = .ok (.istore 4, 2) := by decide +kernel
theorem dX2_countAlike_3 : decode cX2_countAlike 3 = .ok (.iload_n 2, 1) := by decide +kernel
theorem dX2_countAlike_4 : decode cX2_countAlike 4 = .ok (.iload 4, 2) := by decide +kernel
theorem dX2_countAlike_6 : decode cX2_countAlike 6 = .ok (.iadd, 1) := by decide +kernel
theorem dX2_countAlike_7 : decode cX2_countAlike 7 = .ok (.iload_n 3, 1) := by decide +kernel
theorem dX2_countAlike_8 : decode cX2_countAlike 8 = .ok (.if_icmp .ge 28, 3) := by decide +kernel
theorem dX2_countAlike_11 : decode cX2_countAlike 11 = .ok (.aload_n 0, 1) := by decide +kernel
theorem dX2_countAlike_12 : decode cX2_countAlike 12 = .ok (.iload_n 1, 1) := by decide +kernel
theorem dX2_countAlike_13 : decode cX2_countAlike 13 = .ok (.iload 4, 2) := by decide +kernel
theorem dX2_countAlike_15 : decode cX2_countAlike 15 = .ok (.iadd, 1) := by decide +kernel
theorem dX2_countAlike_16 : decode cX2_countAlike 16 = .ok (.invokevirtual 62, 3) := by decide +kernel
theorem dX2_countAlike_19 : decode cX2_countAlike 19 = .ok (.aload_n 0, 1) := by decide +kernel
theorem dX2_countAlike_20 : decode cX2_countAlike 20 = .ok (.iload_n 2, 1) := by decide +kernel
theorem dX2_countAlike_21 : decode cX2_countAlike 21 = .ok (.iload 4, 2) := by decide +kernel
theorem dX2_countAlike_23 : decode cX2_countAlike 23 = .ok (.iadd, 1) := by decide +kernel
theorem dX2_countAlike_24 : decode cX2_countAlike 24 = .ok (.invokevirtual 62, 3) := by decide +kernel
theorem dX2_countAlike_27 : decode cX2_countAlike 27 = .ok (.if_icmp .ne 9, 3) := by decide +kernel
theorem dX2_countAlike_30 : decode cX2_countAlike 30 = .ok (.iinc 4 1, 3) := by decide +kernel
theorem dX2_countAlike_33 : decode cX2_countAlike 33 = .ok (.goto (-30), 3) := by decide +kernel
theorem dX2_countAlike_36 : decode cX2_countAlike 36 = .ok (.iload 4, 2) := by decide +kernel
theorem dX2_countAlike_38 : decode cX2_countAlike 38 = .ok (.ireturn, 1) := by decide +kernel
theorem dX2_putLiteral_0 : decode cX2_putLiteral 0 = .ok (.iload_n 3, 1) := by decide +kernel
theorem dX2_putLiteral_1 : decode cX2_putLiteral 1 = .ok (.ifCond .gt 4, 3) := by decide +kernel
theorem dX2_putLiteral_4 : decode cX2_putLiteral 4 = .ok (.return_, 1) := by decide +kernel
theorem dX2_putLiteral_5 : decode cX2_putLiteral 5 = .ok (.iload_n 3, 1) := by decide +kernel
theorem dX2_putLiteral_6 : decode cX2_putLiteral 6 = .ok (.iconst 1, 1) := by decide +kernel
theorem dX2_putLiteral_7 : decode cX2_putLiteral 7 = .ok (.isub, 1) := by decide +kernel
theorem dX2_putLiteral_8 : decode cX2_putLiteral 8 = .ok (.istore 4, 2) := by decide +kernel
theorem dX2_putLiteral_10 : decode cX2_putLiteral 10 = .ok (.iload 4, 2) := by decide +kernel
theorem dX2_putLiteral_12 : decode cX2_putLiteral 12 = .ok (.bipush 60, 2) := by decide +kernel
theorem dX2_putLiteral_14 : decode cX2_putLiteral 14 = .ok (.if_icmp .ge 19, 3) := by decide +kernel
theorem dX2_putLiteral_17 : decode cX2_putLiteral 17 = .ok (.aload_n 0, 1) := by decide +kernel
theorem dX2_putLiteral_18 : decode cX2_putLiteral 18 = .ok (.getfield 14, 3) := by decide +kernel
theorem dX2_putLiteral_21 : decode cX2_putLiteral 21 = .ok (.iload 4, 2) := by decide +kernel
theorem dX2_putLiteral_23 : decode cX2_putLiteral 23 = .ok (.iconst 2, 1) := by decide +kernel
theorem dX2_putLiteral_24 : decode cX2_putLiteral 24 = .ok (.ishl, 1) := by decide +kernel
theorem dX2_putLiteral_25 : decode cX2_putLiteral 25 = .ok (.iconst 0, 1) := by decide +kernel
theorem dX2_putLiteral_26 : decode cX2_putLiteral 26 = .ok (.ior, 1) := by decide +kernel
theorem dX2_putLiteral_27 : decode cX2_putLiteral 27 = .ok (.invokevirtual 54, 3) := by decide +kernel
theorem dX2_putLiteral_30 : decode cX2_putLiteral 30 = .ok (.goto 45, 3) := by decide +kernel
theorem dX2_putLiteral_33 : decode cX2_putLiteral 33 = .ok (.iload 4, 2) := by decide +kernel
theorem dX2_putLiteral_35 : decode cX2_putLiteral 35 = .ok (.sipush 256, 3) := by decide +kernel
theorem dX2_putLiteral_38 : decode cX2_putLiteral 38 = .ok (.if_icmp .ge 7, 3) := by decide +kernel
theorem dX2_putLiteral_41 : decode cX2_putLiteral 41 = .ok (.iconst 1, 1) := by decide +kernel
theorem dX2_putLiteral_42 : decode cX2_putLiteral 42 = .ok (.goto 4, 3) := by decide +kernel
theorem dX2_putLiteral_45 : decode cX2_putLiteral 45 = .ok (.iconst 2, 1) := by decide +kernel
theorem dX2_putLiteral_46 : decode cX2_putLiteral 46 = .ok (.istore 5, 2) := by decide +kernel
theorem dX2_putLiteral_48 : decode cX2_putLiteral 48 = .ok (.aload_n 0, 1) := by decide +kernel
theorem dX2_putLiteral_49 : decode cX2_putLiteral 49 = .ok (.getfield 14, 3) := by decide +kernel
theorem dX2_putLiteral_52 : decode cX2_putLiteral 52 = .ok (.bipush 59, 2) := by decide +kernel
theorem dX2_putLiteral_54 : decode cX2_putLiteral 54 = .ok (.iload 5, 2) := by decide +kernel
theorem dX2_putLiteral_56 : decode cX2_putLiteral 56 = .ok (.iadd, 1) := by decide +kernel
theorem dX2_putLiteral_57 : decode cX2_putLiteral 57 = .ok (.iconst 2, 1) := by decide +kernel
theorem dX2_putLiteral_58 : decode cX2_putLiteral 58 = .ok (.ishl, 1) := by decide +kernel
theorem dX2_putLiteral_59 : decode cX2_putLiteral 59 = .ok (.iconst 0, 1) := by decide +kernel
theorem dX2_putLiteral_60 : decode cX2_putLiteral 60 = .ok (.ior, 1) := by decide +kernel
theorem dX2_putLiteral_61 : decode cX2_putLiteral 61 = .ok (.invokevirtual 54, 3) := by decide +kernel
theorem dX2_putLiteral_64 : decode cX2_putLiteral 64 = .ok (.aload_n 0, 1) := by decide +kernel
theorem dX2_putLiteral_65 : decode cX2_putLiteral 65 = .ok (.getfield 14, 3) := by decide +kernel
theorem dX2_putLiteral_68 : decode cX2_putLiteral 68 = .ok (.iload 4, 2) := by decide +kernel
theorem dX2_putLiteral_70 : decode cX2_putLiteral 70 = .ok (.iload 5, 2) := by decide +kernel
theorem dX2_putLiteral_72 : decode cX2_putLiteral 72 = .ok (.invokevirtual 65, 3) := by decide +kernel
theorem dX2_putLiteral_75 : decode cX2_putLiteral 75 = .ok (.aload_n 0, 1) := by decide +kernel
theorem dX2_putLiteral_76 : decode cX2_putLiteral 76 = .ok (.getfield 14, 3) := by decide +kernel
theorem dX2_putLiteral_79 : decode cX2_putLiteral 79 = .ok (.aload_n 1, 1) := by decide +kernel
theorem dX2_putLiteral_80 : decode cX2_putLiteral 80 = .ok (.iload_n 2, 1) := by decide +kernel
theorem dX2_putLiteral_81 : decode cX2_putLiteral 81 = .ok (.iload_n 3, 1) := by decide +kernel
theorem dX2_putLiteral_82 : decode cX2_putLiteral 82 = .ok (.invokevirtual 68, 3) := by decide +kernel
theorem dX2_putLiteral_85 : decode cX2_putLiteral 85 = .ok (.return_, 1) := by decide +kernel
theorem dX2_putCopies_0 : decode cX2_putCopies 0 = .ok (.iload_n 1, 1) := by decide +kernel
theorem dX2_putCopies_1 : decode cX2_putCopies 1 = .ok (.istore_n 3, 1) := by decide +kernel
theorem dX2_putCopies_2 : decode cX2_putCopies 2 = .ok (.iload_n 3, 1) := by decide +kernel
theorem dX2_putCopies_3 : decode cX2_putCopies 3 = .ok (.bipush 68, 2) := by decide +kernel
theorem dX2_putCopies_5 : decode cX2_putCopies 5 = .ok (.if_icmp .lt 16, 3) := by decide +kernel
theorem dX2_putCopies_8 : decode cX2_putCopies 8 = .ok (.aload_n 0, 1) := by decide +kernel
theorem dX2_putCopies_9 : decode cX2_putCopies 9 = .ok (.bipush 64, 2) := by decide +kernel
theorem dX2_putCopies_11 : decode cX2_putCopies 11 = .ok (.iload_n 2, 1) := by decide +kernel
theorem dX2_putCopies_12 : decode cX2_putCopies 12 = .ok (.invokevirtual 71, 3) := by decide +kernel
theorem dX2_putCopies_15 : decode cX2_putCopies 15 = .ok (.iinc 3 (-64), 3) := by decide +kernel
theorem dX2_putCopies_18 : decode cX2_putCopies 18 = .ok (.goto (-16), 3) := by decide +kernel
theorem dX2_putCopies_21 : decode cX2_putCopies 21 = .ok (.iload_n 3, 1) := by decide +kernel
theorem dX2_putCopies_22 : decode cX2_putCopies 22 = .ok (.bipush 64, 2) := by decide +kernel
theorem dX2_putCopies_24 : decode cX2_putCopies 24 = .ok (.if_icmp .le 13, 3) := by decide +kernel
theorem dX2_putCopies_27 : decode cX2_putCopies 27 = .ok (.aload_n 0, 1) := by decide +kernel
theorem dX2_putCopies_28 : decode cX2_putCopies 28 = .ok (.bipush 60, 2) := by decide +kernel
theorem dX2_putCopies_30 : decode cX2_putCopies 30 = .ok (.iload_n 2, 1) := by decide +kernel
theorem dX2_putCopies_31 : decode cX2_putCopies 31 = .ok (.invokevirtual 71, 3) := by decide +kernel
theorem dX2_putCopies_34 : decode cX2_putCopies 34 = .ok (.iinc 3 (-60), 3) := by decide +kernel
theorem dX2_putCopies_37 : decode cX2_putCopies 37 = .ok (.iload_n 3, 1) := by decide +kernel
theorem dX2_putCopies_38 : decode cX2_putCopies 38 = .ok (.bipush 12, 2) := by decide +kernel
theorem dX2_putCopies_40 : decode cX2_putCopies 40 = .ok (.if_icmp .ge 46, 3) := by decide +kernel
theorem dX2_putCopies_43 : decode cX2_putCopies 43 = .ok (.iload_n 2, 1) := by decide +kernel
theorem dX2_putCopies_44 : decode cX2_putCopies 44 = .ok (.sipush 2048, 3) := by decide +kernel
theorem dX2_putCopies_47 : decode cX2_putCopies 47 = .ok (.if_icmp .ge 39, 3) := by decide +kernel
theorem dX2_putCopies_50 : decode cX2_putCopies 50 = .ok (.aload_n 0, 1) := by decide +kernel
theorem dX2_putCopies_51 : decode cX2_putCopies 51 = .ok (.getfield 14, 3) := by decide +kernel
theorem dX2_putCopies_54 : decode cX2_putCopies 54 = .ok (.iload_n 2, 1) := by decide +kernel
theorem dX2_putCopies_55 : decode cX2_putCopies 55 = .ok (.bipush 8, 2) := by decide +kernel
theorem dX2_putCopies_57 : decode cX2_putCopies 57 = .ok (.ishr, 1) := by decide +kernel
theorem dX2_putCopies_58 : decode cX2_putCopies 58 = .ok (.iconst 5, 1) := by decide +kernel
theorem dX2_putCopies_59 : decode cX2_putCopies 59 = .ok (.ishl, 1) := by decide +kernel
theorem dX2_putCopies_60 : decode cX2_putCopies 60 = .ok (.iload_n 3, 1) := by decide +kernel
theorem dX2_putCopies_61 : decode cX2_putCopies 61 = .ok (.iconst 4, 1) := by decide +kernel
theorem dX2_putCopies_62 : decode cX2_putCopies 62 = .ok (.isub, 1) := by decide +kernel
theorem dX2_putCopies_63 : decode cX2_putCopies 63 = .ok (.iconst 2, 1) := by decide +kernel
theorem dX2_putCopies_64 : decode cX2_putCopies 64 = .ok (.ishl, 1) := by decide +kernel
theorem dX2_putCopies_65 : decode cX2_putCopies 65 = .ok (.ior, 1) := by decide +kernel
theorem dX2_putCopies_66 : decode cX2_putCopies 66 = .ok (.iconst 1, 1) := by decide +kernel
theorem dX2_putCopies_67 : decode cX2_putCopies 67 = .ok (.ior, 1) := by decide +kernel
theorem dX2_putCopies_68 : decode cX2_putCopies 68 = .ok (.invokevirtual 54, 3) := by decide +kernel
theorem dX2_putCopies_71 : decode cX2_putCopies 71 = .ok (.aload_n 0, 1) := by decide +kernel
theorem dX2_putCopies_72 : decode cX2_putCopies 72 = .ok (.getfield 14, 3) := by decide +kernel
theorem dX2_putCopies_75 : decode cX2_putCopies 75 = .ok (.iload_n 2, 1) := by decide +kernel
theorem dX2_putCopies_76 : decode cX2_putCopies 76 = .ok (.sipush 255, 3) := by decide +kernel
theorem dX2_putCopies_79 : decode cX2_putCopies 79 = .ok (.iand, 1) := by decide +kernel
theorem dX2_putCopies_80 : decode cX2_putCopies 80 = .ok (.invokevirtual 54, 3) := by decide +kernel
theorem dX2_putCopies_83 : decode cX2_putCopies 83 = .ok (.goto 9, 3) := by decide +kernel
theorem dX2_putCopies_86 : decode cX2_putCopies 86 = .ok (.aload_n 0, 1) := by decide +kernel
theorem dX2_putCopies_87 : decode cX2_putCopies 87 = .ok (.iload_n 3, 1) := by decide +kernel
theorem dX2_putCopies_88 : decode cX2_putCopies 88 = .ok (.iload_n 2, 1) := by decide +kernel
theorem dX2_putCopies_89 : decode cX2_putCopies 89 = .ok (.invokevirtual 71, 3) := by decide +kernel
theorem dX2_putCopies_92 : decode cX2_putCopies 92 = .ok (.return_, 1) := by decide +kernel
theorem dX2_putCopy_0 : decode cX2_putCopy 0 = .ok (.aload_n 0, 1) := by decide +kernel
theorem dX2_putCopy_1 : decode cX2_putCopy 1 = .ok (.getfield 14, 3) := by decide +kernel
theorem dX2_putCopy_4 : decode cX2_putCopy 4 = .ok (.iload_n 1, 1) := by decide +kernel
theorem dX2_putCopy_5 : decode cX2_putCopy 5 = .ok (.iconst 1, 1) := by decide +kernel
theorem dX2_putCopy_6 : decode cX2_putCopy 6 = .ok (.isub, 1) := by decide +kernel
theorem dX2_putCopy_7 : decode cX2_putCopy 7 = .ok (.iconst 2, 1) := by decide +kernel
theorem dX2_putCopy_8 : decode cX2_putCopy 8 = .ok (.ishl, 1) := by decide +kernel
theorem dX2_putCopy_9 : decode cX2_putCopy 9 = .ok (.iconst 2, 1) := by decide +kernel
theorem dX2_putCopy_10 : decode cX2_putCopy 10 = .ok (.ior, 1) := by decide +kernel
theorem dX2_putCopy_11 : decode cX2_putCopy 11 = .ok (.invokevirtual 54, 3) := by decide +kernel
theorem dX2_putCopy_14 : decode cX2_putCopy 14 = .ok (.aload_n 0, 1) := by decide +kernel
theorem dX2_putCopy_15 : decode cX2_putCopy 15 = .ok (.getfield 14, 3) := by decide +kernel
theorem dX2_putCopy_18 : decode cX2_putCopy 18 = .ok (.iload_n 2, 1) := by decide +kernel
theorem dX2_putCopy_19 : decode cX2_putCopy 19 = .ok (.iconst 2, 1) := by decide +kernel
theorem dX2_putCopy_20 : decode cX2_putCopy 20 = .ok (.invokevirtual 65, 3) := by decide +kernel
theorem dX2_putCopy_23 : decode cX2_putCopy 23 = .ok (.return_, 1) := by decide +kernel
theorem dX3_init_0 : decode cX3_init 0 = .ok (.aload_n 0, 1) := by decide +kernel
theorem dX3_init_1 : decode cX3_init 1 = .ok (.invokespecial 3, 3) := by decide +kernel
theorem dX3_init_4 : decode cX3_init 4 = .ok (.aload_n 0, 1) := by decide +kernel
theorem dX3_init_5 : decode cX3_init 5 = .ok (.sipush 5000, 3) := by decide +kernel
theorem dX3_init_8 : decode cX3_init 8 = .ok (.newarray .int, 2) := by decide +kernel
theorem dX3_init_10 : decode cX3_init 10 = .ok (.putfield 11, 3) := by decide +kernel
theorem dX3_init_13 : decode cX3_init 13 = .ok (.aload_n 0, 1) := by decide +kernel
theorem dX3_init_14 : decode cX3_init 14 = .ok (.iconst 0, 1) := by decide +kernel
theorem dX3_init_15 : decode cX3_init 15 = .ok (.putfield 15, 3) := by decide +kernel
theorem dX3_init_18 : decode cX3_init 18 = .ok (.aload_n 0, 1) := by decide +kernel
theorem dX3_init_19 : decode cX3_init 19 = .ok (.iconst 0, 1) := by decide +kernel
theorem dX3_init_20 : decode cX3_init 20 = .ok (.putfield 19, 3) := by decide +kernel
theorem dX3_init_23 : decode cX3_init 23 = .ok (.return_, 1) := by decide +kernel
theorem dX3_clear_0 : decode cX3_clear 0 = .ok (.aload_n 0, 1) := by decide +kernel
theorem dX3_clear_1 : decode cX3_clear 1 = .ok (.iconst 0, 1) := by decide +kernel
theorem dX3_clear_2 : decode cX3_clear 2 = .ok (.putfield 15, 3) := by decide +kernel
theorem dX3_clear_5 : decode cX3_clear 5 = .ok (.aload_n 0, 1) := by decide +kernel
theorem dX3_clear_6 : decode cX3_clear 6 = .ok (.iconst 0, 1) := by decide +kernel
theorem dX3_clear_7 : decode cX3_clear 7 = .ok (.putfield 19, 3) := by decide +kernel
theorem dX3_clear_10 : decode cX3_clear 10 = .ok (.return_, 1) := by decide +kernel
theorem dX3_add_0 : decode cX3_add 0 = .ok (.aload_n 0, 1) := by decide +kernel
theorem dX3_add_1 : decode cX3_add 1 = .ok (.getfield 15, 3) := by decide +kernel
theorem dX3_add_4 : decode cX3_add 4 = .ok (.sipush 1000, 3) := by decide +kernel
theorem dX3_add_7 : decode cX3_add 7 = .ok (.if_icmp .ge 61, 3) := by decide +kernel
theorem dX3_add_10 : decode cX3_add 10 = .ok (.aload_n 0, 1) := by decide +kernel
theorem dX3_add_11 : decode cX3_add 11 = .ok (.getfield 15, 3) := by decide +kernel
theorem dX3_add_14 : decode cX3_add 14 = .ok (.iconst 5, 1) := by decide +kernel
theorem dX3_add_15 : decode cX3_add 15 = .ok (.imul, 1) := by decide +kernel
theorem dX3_add_16 : decode cX3_add 16 = .ok (.istore 7, 2) := by decide +kernel
theorem dX3_add_18 : decode cX3_add 18 = .ok (.aload_n 0, 1) := by decide +kernel
theorem dX3_add_19 : decode cX3_add 19 = .ok (.getfield 11, 3) := by decide +kernel
theorem dX3_add_22 : decode cX3_add 22 = .ok (.iload 7, 2) := by decide +kernel
theorem dX3_add_24 : decode cX3_add 24 = .ok (.iload_n 1, 1) := by decide +kernel
theorem dX3_add_25 : decode cX3_add 25 = .ok (.iastore, 1) := by decide +kernel
theorem dX3_add_26 : decode cX3_add 26 = .ok (.aload_n 0, 1) := by decide +kernel
theorem dX3_add_27 : decode cX3_add 27 = .ok (.getfield 11, 3) := by decide +kernel
theorem dX3_add_30 : decode cX3_add 30 = .ok (.iload 7, 2) := by decide +kernel
theorem dX3_add_32 : decode cX3_add 32 = .ok (.iconst 1, 1) := by decide +kernel
theorem dX3_add_33 : decode cX3_add 33 = .ok (.iadd, 1) := by decide +kernel
theorem dX3_add_34 : decode cX3_add 34 = .ok (.iload_n 2, 1) := by decide +kernel
theorem dX3_add_35 : decode cX3_add 35 = .ok (.iastore, 1) := by decide +kernel
theorem dX3_add_36 : decode cX3_add 36 = .ok (.aload_n 0, 1) := by decide +kernel
theorem dX3_add_37 : decode cX3_add 37 = .ok (.getfield 11, 3) := by decide +kernel
theorem dX3_add_40 : decode cX3_add 40 = .ok (.iload 7, 2) := by decide +kernel
theorem dX3_add_42 : decode cX3_add 42 = .ok (.iconst 2, 1) := by decide +kernel
theorem dX3_add_43 : decode cX3_add 43 = .ok (.iadd, 1) := by decide +kernel
theorem dX3_add_44 : decode cX3_add 44 = .ok (.iload_n 3, 1) := by decide +kernel
theorem dX3_add_45 : decode cX3_add 45 = .ok (.iastore, 1) := by decide +kernel
theorem dX3_add_46 : decode cX3_add 46 = .ok (.aload_n 0, 1) := by decide +kernel
theorem dX3_add_47 : decode cX3_add 47 = .ok (.getfield 11, 3) := by decide +kernel
theorem dX3_add_50 : decode cX3_add 50 = .ok (.iload 7, 2) := by decide +kernel
theorem dX3_add_52 : decode cX3_add 52 = .ok (.iconst 3, 1) := by decide +kernel
theorem dX3_add_53 : decode cX3_add 53 = .ok (.iadd, 1) := by decide +kernel
theorem dX3_add_54 : decode cX3_add 54 = .ok (.iload 4, 2) := by decide +kernel
theorem dX3_add_56 : decode cX3_add 56 = .ok (.iastore, 1) := by decide +kernel
theorem dX3_add_57 : decode cX3_add 57 = .ok (.aload_n 0, 1) := by decide +kernel
theorem dX3_add_58 : decode cX3_add 58 = .ok (.getfield 11, 3) := by decide +kernel
theorem dX3_add_61 : decode cX3_add 61 = .ok (.iload 7, 2) := by decide +kernel
theorem dX3_add_63 : decode cX3_add 63 = .ok (.iconst 4, 1) := by decide +kernel
theorem dX3_add_64 : decode cX3_add 64 = .ok (.iadd, 1) := by decide +kernel
theorem dX3_add_65 : decode cX3_add 65 = .ok (.iload 5, 2) := by decide +kernel
theorem dX3_add_67 : decode cX3_add 67 = .ok (.iastore, 1) := by decide +kernel
theorem dX3_add_68 : decode cX3_add 68 = .ok (.aload_n 0, 1) := by decide +kernel
theorem dX3_add_69 : decode cX3_add 69 = .ok (.dup, 1) := by decide +kernel
theorem dX3_add_70 : decode cX3_add 70 = .ok (.getfield 15, 3) := by decide +kernel
theorem dX3_add_73 : decode cX3_add 73 = .ok (.iconst 1, 1) := by decide +kernel
theorem dX3_add_74 : decode cX3_add 74 = .ok (.iadd, 1) := by decide +kernel
theorem dX3_add_75 : decode cX3_add 75 = .ok (.putfield 15, 3) := by decide +kernel
theorem dX3_add_78 : decode cX3_add 78 = .ok (.iload 6, 2) := by decide +kernel
theorem dX3_add_80 : decode cX3_add 80 = .ok (.ifCond .eq 13, 3) := by decide +kernel
theorem dX3_add_83 : decode cX3_add 83 = .ok (.aload_n 0, 1) := by decide +kernel
theorem dX3_add_84 : decode cX3_add 84 = .ok (.dup, 1) := by decide +kernel
theorem dX3_add_85 : decode cX3_add 85 = .ok (.getfield 19, 3) := by decide +kernel
theorem dX3_add_88 : decode cX3_add 88 = .ok (.iconst 1, 1) := by decide +kernel
theorem dX3_add_89 : decode cX3_add 89 = .ok (.iadd, 1) := by decide +kernel
theorem dX3_add_90 : decode cX3_add 90 = .ok (.putfield 19, 3) := by decide +kernel
theorem dX3_add_93 : decode cX3_add 93 = .ok (.return_, 1) := by decide +kernel
theorem dX3_cell_0 : decode cX3_cell 0 = .ok (.iload_n 1, 1) := by decide +kernel
theorem dX3_cell_1 : decode cX3_cell 1 = .ok (.ifCond .lt 26, 3) := by decide +kernel
theorem dX3_cell_4 : decode cX3_cell 4 = .ok (.iload_n 1, 1) := by decide +kernel
theorem dX3_cell_5 : decode cX3_cell 5 = .ok (.aload_n 0, 1) := by decide +kernel
theorem dX3_cell_6 : decode cX3_cell 6 = .ok (.getfield 15, 3) := by decide +kernel
theorem dX3_cell_9 : decode cX3_cell 9 = .ok (.sipush 1000, 3) := by decide +kernel
theorem dX3_cell_12 : decode cX3_cell 12 = .ok (.invokestatic 22, 3) := by decide +kernel
theorem dX3_cell_15 : decode cX3_cell 15 = .ok (.if_icmp .ge 12, 3) := by decide +kernel
theorem dX3_cell_18 : decode cX3_cell 18 = .ok (.iload_n 2, 1) := by decide +kernel
theorem dX3_cell_19 : decode cX3_cell 19 = .ok (.ifCond .lt 8, 3) := by decide +kernel
theorem dX3_cell_22 : decode cX3_cell 22 = .ok (.iload_n 2, 1) := by decide +kernel
theorem dX3_cell_23 : decode cX3_cell 23 = .ok (.iconst 5, 1) := by decide +kernel
theorem dX3_cell_24 : decode cX3_cell 24 = .ok (.if_icmp .lt 5, 3) := by decide +kernel
theorem dX3_cell_27 : decode cX3_cell 27 = .ok (.iconst (-1), 1) := by decide +kernel
theorem dX3_cell_28 : decode cX3_cell 28 = .ok (.ireturn, 1) := by decide +kernel
theorem dX3_cell_29 : decode cX3_cell 29 = .ok (.aload_n 0, 1) := by decide +kernel
theorem dX3_cell_30 : decode cX3_cell 30 = .ok (.getfield 11, 3) := by decide +kernel
theorem dX3_cell_33 : decode cX3_cell 33 = .ok (.iload_n 1, 1) := by decide +kernel
theorem dX3_cell_34 : decode cX3_cell 34 = .ok (.iconst 5, 1) := by decide +kernel
theorem dX3_cell_35 : decode cX3_cell 35 = .ok (.imul, 1) := by decide +kernel
theorem dX3_cell_36 : decode cX3_cell 36 = .ok (.iload_n 2, 1) := by decide +kernel
theorem dX3_cell_37 : decode cX3_cell 37 = .ok (.iadd, 1) := by decide +kernel
theorem dX3_cell_38 : decode cX3_cell 38 = .ok (.iaload, 1) := by decide +kernel
theorem dX3_cell_39 : decode cX3_cell 39 = .ok (.ireturn, 1) := by decide +kernel
theorem dX3_become_0 : decode cX3_become 0 = .ok (.aload_n 0, 1) := by decide +kernel
theorem dX3_become_1 : decode cX3_become 1 = .ok (.aload_n 1, 1) := by decide +kernel
theorem dX3_become_2 : decode cX3_become 2 = .ok (.getfield 15, 3) := by decide +kernel
theorem dX3_become_5 : decode cX3_become 5 = .ok (.putfield 15, 3) := by decide +kernel
theorem dX3_become_8 : decode cX3_become 8 = .ok (.aload_n 0, 1) := by decide +kernel
theorem dX3_become_9 : decode cX3_become 9 = .ok (.aload_n 1, 1) := by decide +kernel
theorem dX3_become_10 : decode cX3_become 10 = .ok (.getfield 19, 3) := by decide +kernel
theorem dX3_become_13 : decode cX3_become 13 = .ok (.putfield 19, 3) := by decide +kernel
theorem dX3_become_16 : decode cX3_become 16 = .ok (.aload_n 1, 1) := by decide +kernel
theorem dX3_become_17 : decode cX3_become 17 = .ok (.getfield 11, 3) := by decide +kernel
theorem dX3_become_20 : decode cX3_become 20 = .ok (.iconst 0, 1) := by decide +kernel
theorem dX3_become_21 : decode cX3_become 21 = .ok (.aload_n 0, 1) := by decide +kernel
theorem dX3_become_22 : decode cX3_become 22 = .ok (.getfield 11, 3) := by decide +kernel
theorem dX3_become_25 : decode cX3_become 25 = .ok (.iconst 0, 1) := by decide +kernel
theorem dX3_become_26 : decode cX3_become 26 = .ok (.aload_n 0, 1) := by decide +kernel
theorem dX3_become_27 : decode cX3_become 27 = .ok (.getfield 15, 3) := by decide +kernel
theorem dX3_become_30 : decode cX3_become 30 = .ok (.sipush 1000, 3) := by decide +kernel
theorem dX3_become_33 : decode cX3_become 33 = .ok (.invokestatic 22, 3) := by decide +kernel
theorem dX3_become_36 : decode cX3_become 36 = .ok (.iconst 5, 1) := by decide +kernel
theorem dX3_become_37 : decode cX3_become 37 = .ok (.imul, 1) := by decide +kernel
theorem dX3_become_38 : decode cX3_become 38 = .ok (.invokestatic 28, 3) := by decide +kernel
theorem dX3_become_41 : decode cX3_become 41 = .ok (.return_, 1) := by decide +kernel
theorem dX4_init_0 : decode cX4_init 0 = .ok (.aload_n 0, 1) := by decide +kernel
theorem dX4_init_1 : decode cX4_init 1 = .ok (.invokespecial 3, 3) := by decide +kernel
theorem dX4_init_4 : decode cX4_init 4 = .ok (.aload_n 0, 1) := by decide +kernel
theorem dX4_init_5 : decode cX4_init 5 = .ok (.new 9, 3) := by decide +kernel
theorem dX4_init_8 : decode cX4_init 8 = .ok (.dup, 1) := by decide +kernel
theorem dX4_init_9 : decode cX4_init 9 = .ok (.sipush 24000, 3) := by decide +kernel
theorem dX4_init_12 : decode cX4_init 12 = .ok (.invokespecial 11, 3) := by decide +kernel
theorem dX4_init_15 : decode cX4_init 15 = .ok (.putfield 14, 3) := by decide +kernel
theorem dX4_init_18 : decode cX4_init 18 = .ok (.return_, 1) := by decide +kernel
theorem dX4_makeStream_0 : decode cX4_makeStream 0 = .ok (.aload_n 0, 1) := by decide +kernel
theorem dX4_makeStream_1 : decode cX4_makeStream 1 = .ok (.getfield 14, 3) := by decide +kernel
theorem dX4_makeStream_4 : decode cX4_makeStream 4 = .ok (.iconst 0, 1) := by decide +kernel
theorem dX4_makeStream_5 : decode cX4_makeStream 5 = .ok (.invokevirtual 20, 3) := by decide +kernel
theorem dX4_makeStream_8 : decode cX4_makeStream 8 = .ok (.aload_n 0, 1) := by decide +kernel
theorem dX4_makeStream_9 : decode cX4_makeStream 9 = .ok (.sipush 255, 3) := by decide +kernel
theorem dX4_makeStream_12 : decode cX4_makeStream 12 = .ok (.bipush 6, 2) := by decide +kernel
theorem dX4_makeStream_14 : decode cX4_makeStream 14 = .ok (.invokevirtual 23, 3) := by decide +kernel
theorem dX4_makeStream_17 : decode cX4_makeStream 17 = .ok (.getstatic 27, 3) := by decide +kernel
theorem dX4_makeStream_20 : decode cX4_makeStream 20 = .ok (.astore 4, 2) := by decide +kernel
theorem dX4_makeStream_22 : decode cX4_makeStream 22 = .ok (.aload 4, 2) := by decide +kernel
theorem dX4_makeStream_24 : decode cX4_makeStream 24 = .ok (.arraylength, 1) := by decide +kernel
theorem dX4_makeStream_25 : decode cX4_makeStream 25 = .ok (.istore 5, 2) := by decide +kernel
theorem dX4_makeStream_27 : decode cX4_makeStream 27 = .ok (.iconst 0, 1) := by decide +kernel
theorem dX4_makeStream_28 : decode cX4_makeStream 28 = .ok (.istore 6, 2) := by decide +kernel
theorem dX4_makeStream_30 : decode cX4_makeStream 30 = .ok (.iload 6, 2) := by decide +kernel
theorem dX4_makeStream_32 : decode cX4_makeStream 32 = .ok (.iload 5, 2) := by decide +kernel
theorem dX4_makeStream_34 : decode cX4_makeStream 34 = .ok (.if_icmp .ge 25, 3) := by decide +kernel
theorem dX4_makeStream_37 : decode cX4_makeStream 37 = .ok (.aload 4, 2) := by decide +kernel
theorem dX4_makeStream_39 : decode cX4_makeStream 39 = .ok (.iload 6, 2) := by decide +kernel
theorem dX4_makeStream_41 : decode cX4_makeStream 41 = .ok (.iaload, 1) := by decide +kernel
theorem dX4_makeStream_42 : decode cX4_makeStream 42 = .ok (.istore 7, 2) := by decide +kernel
theorem dX4_makeStream_44 : decode cX4_makeStream 44 = .ok (.aload_n 0, 1) := by decide +kernel
theorem dX4_makeStream_45 : decode cX4_makeStream 45 = .ok (.getfield 14, 3) := by decide +kernel
theorem dX4_makeStream_48 : decode cX4_makeStream 48 = .ok (.iload 7, 2) := by decide +kernel
theorem dX4_makeStream_50 : decode cX4_makeStream 50 = .ok (.invokevirtual 31, 3) := by decide +kernel
theorem dX4_makeStream_53 : decode cX4_makeStream 53 = .ok (.iinc 6 1, 3) := by decide +kernel
theorem dX4_makeStream_56 : decode cX4_makeStream 56 = .ok (.goto (-26), 3) := by decide +kernel
theorem dX4_makeStream_59 : decode cX4_makeStream 59 = .ok (.iload_n 2, 1) := by decide +kernel
theorem dX4_makeStream_60 : decode cX4_makeStream 60 = .ok (.iconst 1, 1) := by decide +kernel
theorem dX4_makeStream_61 : decode cX4_makeStream 61 = .ok (.invokestatic 34, 3) := by decide +kernel
theorem dX4_makeStream_64 : decode cX4_makeStream 64 = .ok (.istore 4, 2) := by decide +kernel
theorem dX4_makeStream_66 : decode cX4_makeStream 66 = .ok (.iconst 0, 1) := by decide +kernel
theorem dX4_makeStream_67 : decode cX4_makeStream 67 = .ok (.istore 5, 2) := by decide +kernel
theorem dX4_makeStream_69 : decode cX4_makeStream 69 = .ok (.iload 5, 2) := by decide +kernel
theorem dX4_makeStream_71 : decode cX4_makeStream 71 = .ok (.aload_n 1, 1) := by decide +kernel
theorem dX4_makeStream_72 : decode cX4_makeStream 72 = .ok (.getfield 40, 3) := by decide +kernel
theorem dX4_makeStream_75 : decode cX4_makeStream 75 = .ok (.if_icmp .ge 54, 3) := by decide +kernel
theorem dX4_makeStream_78 : decode cX4_makeStream 78 = .ok (.iload 4, 2) := by decide +kernel
theorem dX4_makeStream_80 : decode cX4_makeStream 80 = .ok (.aload_n 1, 1) := by decide +kernel
theorem dX4_makeStream_81 : decode cX4_makeStream 81 = .ok (.getfield 40, 3) := by decide +kernel
theorem dX4_makeStream_84 : decode cX4_makeStream 84 = .ok (.iload 5, 2) := by decide +kernel
theorem dX4_makeStream_86 : decode cX4_makeStream 86 = .ok (.isub, 1) := by decide +kernel
theorem dX4_makeStream_87 : decode cX4_makeStream 87 = .ok (.invokestatic 44, 3) := by decide +kernel
theorem dX4_makeStream_90 : decode cX4_makeStream 90 = .ok (.istore 6, 2) := by decide +kernel
theorem dX4_makeStream_92 : decode cX4_makeStream 92 = .ok (.aload_n 3, 1) := by decide +kernel
theorem dX4_makeStream_93 : decode cX4_makeStream 93 = .ok (.aload_n 1, 1) := by decide +kernel
theorem dX4_makeStream_94 : decode cX4_makeStream 94 = .ok (.iload 5, 2) := by decide +kernel
theorem dX4_makeStream_96 : decode cX4_makeStream 96 = .ok (.iload 6, 2) := by decide +kernel
theorem dX4_makeStream_98 : decode cX4_makeStream 98 = .ok (.invokevirtual 47, 3) := by decide +kernel
theorem dX4_makeStream_101 : decode cX4_makeStream 101 = .ok (.aload_n 0, 1) := by decide +kernel
theorem dX4_makeStream_102 : decode cX4_makeStream 102 = .ok (.aload_n 1, 1) := by decide +kernel
theorem dX4_makeStream_103 : decode cX4_makeStream 103 = .ok (.iload 5, 2) := by decide +kernel
theorem dX4_makeStream_105 : decode cX4_makeStream 105 = .ok (.iload 6, 2) := by decide +kernel
theorem dX4_makeStream_107 : decode cX4_makeStream 107 = .ok (.aload_n 3, 1) := by decide +kernel
theorem dX4_makeStream_108 : decode cX4_makeStream 108 = .ok (.getfield 53, 3) := by decide +kernel
theorem dX4_makeStream_111 : decode cX4_makeStream 111 = .ok (.invokevirtual 56, 3) := by decide +kernel
theorem dX4_makeStream_114 : decode cX4_makeStream 114 = .ok (.ifCond .ne 5, 3) := by decide +kernel
theorem dX4_makeStream_117 : decode cX4_makeStream 117 = .ok (.iconst 0, 1) := by decide +kernel
theorem dX4_makeStream_118 : decode cX4_makeStream 118 = .ok (.ireturn, 1) := by decide +kernel
theorem dX4_makeStream_119 : decode cX4_makeStream 119 = .ok (.iload 5, 2) := by decide +kernel
theorem dX4_makeStream_121 : decode cX4_makeStream 121 = .ok (.iload 4, 2) := by decide +kernel
theorem dX4_makeStream_123 : decode cX4_makeStream 123 = .ok (.iadd, 1) := by decide +kernel
theorem dX4_makeStream_124 : decode cX4_makeStream 124 = .ok (.istore 5, 2) := by decide +kernel
theorem dX4_makeStream_126 : decode cX4_makeStream 126 = .ok (.goto (-57), 3) := by decide +kernel
theorem dX4_makeStream_129 : decode cX4_makeStream 129 = .ok (.iconst 1, 1) := by decide +kernel
theorem dX4_makeStream_130 : decode cX4_makeStream 130 = .ok (.ireturn, 1) := by decide +kernel
theorem dX4_putPiece_0 : decode cX4_putPiece 0 = .ok (.aload 4, 2) := by decide +kernel
theorem dX4_putPiece_2 : decode cX4_putPiece 2 = .ok (.getfield 40, 3) := by decide +kernel
theorem dX4_putPiece_5 : decode cX4_putPiece 5 = .ok (.iload_n 3, 1) := by decide +kernel
theorem dX4_putPiece_6 : decode cX4_putPiece 6 = .ok (.iload_n 3, 1) := by decide +kernel
theorem dX4_putPiece_7 : decode cX4_putPiece 7 = .ok (.bipush 8, 2) := by decide +kernel
theorem dX4_putPiece_9 : decode cX4_putPiece 9 = .ok (.idiv, 1) := by decide +kernel
theorem dX4_putPiece_10 : decode cX4_putPiece 10 = .ok (.isub, 1) := by decide +kernel
theorem dX4_putPiece_11 : decode cX4_putPiece 11 = .ok (.if_icmp .ge 7, 3) := by decide +kernel
theorem dX4_putPiece_14 : decode cX4_putPiece 14 = .ok (.iconst 1, 1) := by decide +kernel
theorem dX4_putPiece_15 : decode cX4_putPiece 15 = .ok (.goto 4, 3) := by decide +kernel
theorem dX4_putPiece_18 : decode cX4_putPiece 18 = .ok (.iconst 0, 1) := by decide +kernel
theorem dX4_putPiece_19 : decode cX4_putPiece 19 = .ok (.istore 5, 2) := by decide +kernel
theorem dX4_putPiece_21 : decode cX4_putPiece 21 = .ok (.iconst 4, 1) := by decide +kernel
theorem dX4_putPiece_22 : decode cX4_putPiece 22 = .ok (.iload 5, 2) := by decide +kernel
theorem dX4_putPiece_24 : decode cX4_putPiece 24 = .ok (.ifCond .eq 11, 3) := by decide +kernel
theorem dX4_putPiece_27 : decode cX4_putPiece 27 = .ok (.aload 4, 2) := by decide +kernel
theorem dX4_putPiece_29 : decode cX4_putPiece 29 = .ok (.getfield 40, 3) := by decide +kernel
theorem dX4_putPiece_32 : decode cX4_putPiece 32 = .ok (.goto 4, 3) := by decide +kernel
theorem dX4_putPiece_35 : decode cX4_putPiece 35 = .ok (.iload_n 3, 1) := by decide +kernel
theorem dX4_putPiece_36 : decode cX4_putPiece 36 = .ok (.iadd, 1) := by decide +kernel
theorem dX4_putPiece_37 : decode cX4_putPiece 37 = .ok (.istore 6, 2) := by decide +kernel
theorem dX4_putPiece_39 : decode cX4_putPiece 39 = .ok (.aload_n 0, 1) := by decide +kernel
theorem dX4_putPiece_40 : decode cX4_putPiece 40 = .ok (.getfield 14, 3) := by decide +kernel
theorem dX4_putPiece_43 : decode cX4_putPiece 43 = .ok (.iconst 4, 1) := by decide +kernel
theorem dX4_putPiece_44 : decode cX4_putPiece 44 = .ok (.iload 6, 2) := by decide +kernel
theorem dX4_putPiece_46 : decode cX4_putPiece 46 = .ok (.iadd, 1) := by decide +kernel
theorem dX4_putPiece_47 : decode cX4_putPiece 47 = .ok (.invokevirtual 60, 3) := by decide +kernel
theorem dX4_putPiece_50 : decode cX4_putPiece 50 = .ok (.ifCond .ne 5, 3) := by decide +kernel
theorem dX4_putPiece_53 : decode cX4_putPiece 53 = .ok (.iconst 0, 1) := by decide +kernel
theorem dX4_putPiece_54 : decode cX4_putPiece 54 = .ok (.ireturn, 1) := by decide +kernel
theorem dX4_putPiece_55 : decode cX4_putPiece 55 = .ok (.aload_n 0, 1) := by decide +kernel
theorem dX4_putPiece_56 : decode cX4_putPiece 56 = .ok (.iload 5, 2) := by decide +kernel
theorem dX4_putPiece_58 : decode cX4_putPiece 58 = .ok (.ifCond .eq 7, 3) := by decide +kernel
theorem dX4_putPiece_61 : decode cX4_putPiece 61 = .ok (.iconst 0, 1) := by decide +kernel
theorem dX4_putPiece_62 : decode cX4_putPiece 62 = .ok (.goto 4, 3) := by decide +kernel
theorem dX4_putPiece_65 : decode cX4_putPiece 65 = .ok (.iconst 1, 1) := by decide +kernel
theorem dX4_putPiece_66 : decode cX4_putPiece 66 = .ok (.iload 6, 2) := by decide +kernel
theorem dX4_putPiece_68 : decode cX4_putPiece 68 = .ok (.invokevirtual 23, 3) := by decide +kernel
theorem dX4_putPiece_71 : decode cX4_putPiece 71 = .ok (.aload_n 0, 1) := by decide +kernel
theorem dX4_putPiece_72 : decode cX4_putPiece 72 = .ok (.getfield 14, 3) := by decide +kernel
theorem dX4_putPiece_75 : decode cX4_putPiece 75 = .ok (.aload_n 1, 1) := by decide +kernel
theorem dX4_putPiece_76 : decode cX4_putPiece 76 = .ok (.iload_n 2, 1) := by decide +kernel
theorem dX4_putPiece_77 : decode cX4_putPiece 77 = .ok (.iload_n 3, 1) := by decide +kernel
theorem dX4_putPiece_78 : decode cX4_putPiece 78 = .ok (.invokevirtual 64, 3) := by decide +kernel
theorem dX4_putPiece_81 : decode cX4_putPiece 81 = .ok (.iconst 4, 1) := by decide +kernel
theorem dX4_putPiece_82 : decode cX4_putPiece 82 = .ok (.invokevirtual 67, 3) := by decide +kernel
theorem dX4_putPiece_85 : decode cX4_putPiece 85 = .ok (.iload 5, 2) := by decide +kernel
theorem dX4_putPiece_87 : decode cX4_putPiece 87 = .ok (.ifCond .eq 21, 3) := by decide +kernel
theorem dX4_putPiece_90 : decode cX4_putPiece 90 = .ok (.aload_n 0, 1) := by decide +kernel
theorem dX4_putPiece_91 : decode cX4_putPiece 91 = .ok (.getfield 14, 3) := by decide +kernel
theorem dX4_putPiece_94 : decode cX4_putPiece 94 = .ok (.aload 4, 2) := by decide +kernel
theorem dX4_putPiece_96 : decode cX4_putPiece 96 = .ok (.iconst 0, 1) := by decide +kernel
theorem dX4_putPiece_97 : decode cX4_putPiece 97 = .ok (.aload 4, 2) := by decide +kernel
theorem dX4_putPiece_99 : decode cX4_putPiece 99 = .ok (.getfield 40, 3) := by decide +kernel
theorem dX4_putPiece_102 : decode cX4_putPiece 102 = .ok (.invokevirtual 70, 3) := by decide +kernel
theorem dX4_putPiece_105 : decode cX4_putPiece 105 = .ok (.goto 13, 3) := by decide +kernel
theorem dX4_putPiece_108 : decode cX4_putPiece 108 = .ok (.aload_n 0, 1) := by decide +kernel
theorem dX4_putPiece_109 : decode cX4_putPiece 109 = .ok (.getfield 14, 3) := by decide +kernel
theorem dX4_putPiece_112 : decode cX4_putPiece 112 = .ok (.aload_n 1, 1) := by decide +kernel
theorem dX4_putPiece_113 : decode cX4_putPiece 113 = .ok (.iload_n 2, 1) := by decide +kernel
theorem dX4_putPiece_114 : decode cX4_putPiece 114 = .ok (.iload_n 3, 1) := by decide +kernel
theorem dX4_putPiece_115 : decode cX4_putPiece 115 = .ok (.invokevirtual 70, 3) := by decide +kernel
theorem dX4_putPiece_118 : decode cX4_putPiece 118 = .ok (.iconst 1, 1) := by decide +kernel
theorem dX4_putPiece_119 : decode cX4_putPiece 119 = .ok (.ireturn, 1) := by decide +kernel
theorem dX4_putHeader_0 : decode cX4_putHeader 0 = .ok (.aload_n 0, 1) := by decide +kernel
theorem dX4_putHeader_1 : decode cX4_putHeader 1 = .ok (.getfield 14, 3) := by decide +kernel
theorem dX4_putHeader_4 : decode cX4_putHeader 4 = .ok (.iload_n 1, 1) := by decide +kernel
theorem dX4_putHeader_5 : decode cX4_putHeader 5 = .ok (.invokevirtual 31, 3) := by decide +kernel
theorem dX4_putHeader_8 : decode cX4_putHeader 8 = .ok (.aload_n 0, 1) := by decide +kernel
theorem dX4_putHeader_9 : decode cX4_putHeader 9 = .ok (.getfield 14, 3) := by decide +kernel
theorem dX4_putHeader_12 : decode cX4_putHeader 12 = .ok (.iload_n 2, 1) := by decide +kernel
theorem dX4_putHeader_13 : decode cX4_putHeader 13 = .ok (.iconst 3, 1) := by decide +kernel
theorem dX4_putHeader_14 : decode cX4_putHeader 14 = .ok (.invokevirtual 67, 3) := by decide +kernel
theorem dX4_putHeader_17 : decode cX4_putHeader 17 = .ok (.return_, 1) := by decide +kernel
theorem dX5_init_0 : decode cX5_init 0 = .ok (.aload_n 0, 1) := by decide +kernel
theorem dX5_init_1 : decode cX5_init 1 = .ok (.invokespecial 3, 3) := by decide +kernel
theorem dX5_init_4 : decode cX5_init 4 = .ok (.aload_n 0, 1) := by decide +kernel
theorem dX5_init_5 : decode cX5_init 5 = .ok (.new 9, 3) := by decide +kernel
theorem dX5_init_8 : decode cX5_init 8 = .ok (.dup, 1) := by decide +kernel
theorem dX5_init_9 : decode cX5_init 9 = .ok (.sipush 20000, 3) := by decide +kernel
theorem dX5_init_12 : decode cX5_init 12 = .ok (.invokespecial 11, 3) := by decide +kernel
theorem dX5_init_15 : decode cX5_init 15 = .ok (.putfield 14, 3) := by decide +kernel
theorem dX5_init_18 : decode cX5_init 18 = .ok (.aload_n 0, 1) := by decide +kernel
theorem dX5_init_19 : decode cX5_init 19 = .ok (.new 20, 3) := by decide +kernel
theorem dX5_init_22 : decode cX5_init 22 = .ok (.dup, 1) := by decide +kernel
theorem dX5_init_23 : decode cX5_init 23 = .ok (.invokespecial 22, 3) := by decide +kernel
theorem dX5_init_26 : decode cX5_init 26 = .ok (.putfield 23, 3) := by decide +kernel
theorem dX5_init_29 : decode cX5_init 29 = .ok (.aload_n 0, 1) := by decide +kernel
theorem dX5_init_30 : decode cX5_init 30 = .ok (.iconst 0, 1) := by decide +kernel
theorem dX5_init_31 : decode cX5_init 31 = .ok (.putfield 27, 3) := by decide +kernel
theorem dX5_init_34 : decode cX5_init 34 = .ok (.aload_n 0, 1) := by decide +kernel
theorem dX5_init_35 : decode cX5_init 35 = .ok (.iconst (-1), 1) := by decide +kernel
theorem dX5_init_36 : decode cX5_init 36 = .ok (.putfield 31, 3) := by decide +kernel
theorem dX5_init_39 : decode cX5_init 39 = .ok (.aload_n 0, 1) := by decide +kernel
theorem dX5_init_40 : decode cX5_init 40 = .ok (.iconst 0, 1) := by decide +kernel
theorem dX5_init_41 : decode cX5_init 41 = .ok (.putfield 34, 3) := by decide +kernel
theorem dX5_init_44 : decode cX5_init 44 = .ok (.aload_n 0, 1) := by decide +kernel
theorem dX5_init_45 : decode cX5_init 45 = .ok (.sipush 255, 3) := by decide +kernel
theorem dX5_init_48 : decode cX5_init 48 = .ok (.putfield 37, 3) := by decide +kernel
theorem dX5_init_51 : decode cX5_init 51 = .ok (.aload_n 0, 1) := by decide +kernel
theorem dX5_init_52 : decode cX5_init 52 = .ok (.iconst 0, 1) := by decide +kernel
theorem dX5_init_53 : decode cX5_init 53 = .ok (.putfield 40, 3) := by decide +kernel
theorem dX5_init_56 : decode cX5_init 56 = .ok (.aload_n 0, 1) := by decide +kernel
theorem dX5_init_57 : decode cX5_init 57 = .ok (.iconst 0, 1) := by decide +kernel
theorem dX5_init_58 : decode cX5_init 58 = .ok (.putfield 43, 3) := by decide +kernel
theorem dX5_init_61 : decode cX5_init 61 = .ok (.return_, 1) := by decide +kernel
theorem dX5_openStream_0 : decode cX5_openStream 0 = .ok (.aload_n 0, 1) := by decide +kernel
theorem dX5_openStream_1 : decode cX5_openStream 1 = .ok (.getfield 14, 3) := by decide +kernel
theorem dX5_openStream_4 : decode cX5_openStream 4 = .ok (.iconst 0, 1) := by decide +kernel
theorem dX5_openStream_5 : decode cX5_openStream 5 = .ok (.invokevirtual 46, 3) := by decide +kernel
theorem dX5_openStream_8 : decode cX5_openStream 8 = .ok (.aload_n 0, 1) := by decide +kernel
theorem dX5_openStream_9 : decode cX5_openStream 9 = .ok (.getfield 23, 3) := by decide +kernel
theorem dX5_openStream_12 : decode cX5_openStream 12 = .ok (.invokevirtual 49, 3) := by decide +kernel
theorem dX5_openStream_15 : decode cX5_openStream 15 = .ok (.aload_n 0, 1) := by decide +kernel
theorem dX5_openStream_16 : decode cX5_openStream 16 = .ok (.iconst 0, 1) := by decide +kernel
theorem dX5_openStream_17 : decode cX5_openStream 17 = .ok (.putfield 27, 3) := by decide +kernel
theorem dX5_openStream_20 : decode cX5_openStream 20 = .ok (.aload_n 0, 1) := by decide +kernel
theorem dX5_openStream_21 : decode cX5_openStream 21 = .ok (.iconst (-1), 1) := by decide +kernel
theorem dX5_openStream_22 : decode cX5_openStream 22 = .ok (.putfield 31, 3) := by decide +kernel
theorem dX5_openStream_25 : decode cX5_openStream 25 = .ok (.aload_n 0, 1) := by decide +kernel
theorem dX5_openStream_26 : decode cX5_openStream 26 = .ok (.iconst 0, 1) := by decide +kernel
theorem dX5_openStream_27 : decode cX5_openStream 27 = .ok (.putfield 34, 3) := by decide +kernel
theorem dX5_openStream_30 : decode cX5_openStream 30 = .ok (.aload_n 1, 1) := by decide +kernel
theorem dX5_openStream_31 : decode cX5_openStream 31 = .ok (.iconst 0, 1) := by decide +kernel
theorem dX5_openStream_32 : decode cX5_openStream 32 = .ok (.invokevirtual 52, 3) := by decide +kernel
theorem dX5_openStream_35 : decode cX5_openStream 35 = .ok (.sipush 255, 3) := by decide +kernel
theorem dX5_openStream_38 : decode cX5_openStream 38 = .ok (.if_icmp .eq 9, 3) := by decide +kernel
theorem dX5_openStream_41 : decode cX5_openStream 41 = .ok (.aload_n 0, 1) := by decide +kernel
theorem dX5_openStream_42 : decode cX5_openStream 42 = .ok (.bipush 11, 2) := by decide +kernel
theorem dX5_openStream_44 : decode cX5_openStream 44 = .ok (.invokevirtual 56, 3) := by decide +kernel
theorem dX5_openStream_47 : decode cX5_openStream 47 = .ok (.iconst 0, 1) := by decide +kernel
theorem dX5_openStream_48 : decode cX5_openStream 48 = .ok (.istore_n 3, 1) := by decide +kernel
theorem dX5_openStream_49 : decode cX5_openStream 49 = .ok (.iload_n 3, 1) := by decide +kernel
theorem dX5_openStream_50 : decode cX5_openStream 50 = .ok (.aload_n 1, 1) := by decide +kernel
theorem dX5_openStream_51 : decode cX5_openStream 51 = .ok (.getfield 59, 3) := by decide +kernel
theorem dX5_openStream_54 : decode cX5_openStream 54 = .ok (.if_icmp .ge 86, 3) := by decide +kernel
theorem dX5_openStream_57 : decode cX5_openStream 57 = .ok (.aload_n 0, 1) := by decide +kernel
theorem dX5_openStream_58 : decode cX5_openStream 58 = .ok (.getfield 34, 3) := by decide +kernel
theorem dX5_openStream_61 : decode cX5_openStream 61 = .ok (.aload_n 1, 1) := by decide +kernel
theorem dX5_openStream_62 : decode cX5_openStream 62 = .ok (.getfield 59, 3) := by decide +kernel
theorem dX5_openStream_65 : decode cX5_openStream 65 = .ok (.if_icmp .ge 75, 3) := by decide +kernel
theorem dX5_openStream_68 : decode cX5_openStream 68 = .ok (.aload_n 0, 1) := by decide +kernel
theorem dX5_openStream_69 : decode cX5_openStream 69 = .ok (.getfield 27, 3) := by decide +kernel
theorem dX5_openStream_72 : decode cX5_openStream 72 = .ok (.ifCond .ne 68, 3) := by decide +kernel
theorem dX5_openStream_75 : decode cX5_openStream 75 = .ok (.aload_n 0, 1) := by decide +kernel
theorem dX5_openStream_76 : decode cX5_openStream 76 = .ok (.getfield 14, 3) := by decide +kernel
theorem dX5_openStream_79 : decode cX5_openStream 79 = .ok (.getfield 59, 3) := by decide +kernel
theorem dX5_openStream_82 : decode cX5_openStream 82 = .ok (.istore 4, 2) := by decide +kernel
theorem dX5_openStream_84 : decode cX5_openStream 84 = .ok (.aload_n 0, 1) := by decide +kernel
theorem dX5_openStream_85 : decode cX5_openStream 85 = .ok (.aload_n 1, 1) := by decide +kernel
theorem dX5_openStream_86 : decode cX5_openStream 86 = .ok (.invokevirtual 62, 3) := by decide +kernel
theorem dX5_openStream_89 : decode cX5_openStream 89 = .ok (.aload_n 0, 1) := by decide +kernel
theorem dX5_openStream_90 : decode cX5_openStream 90 = .ok (.getfield 27, 3) := by decide +kernel
theorem dX5_openStream_93 : decode cX5_openStream 93 = .ok (.ifCond .ne 8, 3) := by decide +kernel
theorem dX5_openStream_96 : decode cX5_openStream 96 = .ok (.aload_n 0, 1) := by decide +kernel
theorem dX5_openStream_97 : decode cX5_openStream 97 = .ok (.aload_n 1, 1) := by decide +kernel
theorem dX5_openStream_98 : decode cX5_openStream 98 = .ok (.invokevirtual 66, 3) := by decide +kernel
theorem dX5_openStream_101 : decode cX5_openStream 101 = .ok (.aload_n 0, 1) := by decide +kernel
theorem dX5_openStream_102 : decode cX5_openStream 102 = .ok (.getfield 27, 3) := by decide +kernel
theorem dX5_openStream_105 : decode cX5_openStream 105 = .ok (.ifCond .ne 16, 3) := by decide +kernel
theorem dX5_openStream_108 : decode cX5_openStream 108 = .ok (.aload_n 0, 1) := by decide +kernel
theorem dX5_openStream_109 : decode cX5_openStream 109 = .ok (.invokevirtual 69, 3) := by decide +kernel
theorem dX5_openStream_112 : decode cX5_openStream 112 = .ok (.ifCond .eq 9, 3) := by decide +kernel
theorem dX5_openStream_115 : decode cX5_openStream 115 = .ok (.aload_n 0, 1) := by decide +kernel
theorem dX5_openStream_116 : decode cX5_openStream 116 = .ok (.aload_n 1, 1) := by decide +kernel
theorem dX5_openStream_117 : decode cX5_openStream 117 = .ok (.aload_n 2, 1) := by decide +kernel
theorem dX5_openStream_118 : decode cX5_openStream 118 = .ok (.invokevirtual 73, 3) := by decide +kernel
theorem dX5_openStream_121 : decode cX5_openStream 121 = .ok (.aload_n 0, 1) := by decide +kernel
theorem dX5_openStream_122 : decode cX5_openStream 122 = .ok (.getfield 27, 3) := by decide +kernel
theorem dX5_openStream_125 : decode cX5_openStream 125 = .ok (.ifCond .ne 9, 3) := by decide +kernel
theorem dX5_openStream_128 : decode cX5_openStream 128 = .ok (.aload_n 0, 1) := by decide +kernel
theorem dX5_openStream_129 : decode cX5_openStream 129 = .ok (.iload 4, 2) := by decide +kernel
theorem dX5_openStream_131 : decode cX5_openStream 131 = .ok (.invokevirtual 77, 3) := by decide +kernel
theorem dX5_openStream_134 : decode cX5_openStream 134 = .ok (.iinc 3 1, 3) := by decide +kernel
theorem dX5_openStream_137 : decode cX5_openStream 137 = .ok (.goto (-88), 3) := by decide +kernel
theorem dX5_openStream_140 : decode cX5_openStream 140 = .ok (.return_, 1) := by decide +kernel
theorem dX5_fail_0 : decode cX5_fail 0 = .ok (.aload_n 0, 1) := by decide +kernel
theorem dX5_fail_1 : decode cX5_fail 1 = .ok (.iload_n 1, 1) := by decide +kernel
theorem dX5_fail_2 : decode cX5_fail 2 = .ok (.putfield 27, 3) := by decide +kernel
theorem dX5_fail_5 : decode cX5_fail 5 = .ok (.aload_n 0, 1) := by decide +kernel
theorem dX5_fail_6 : decode cX5_fail 6 = .ok (.aload_n 0, 1) := by decide +kernel
theorem dX5_fail_7 : decode cX5_fail 7 = .ok (.getfield 34, 3) := by decide +kernel
theorem dX5_fail_10 : decode cX5_fail 10 = .ok (.putfield 31, 3) := by decide +kernel
theorem dX5_fail_13 : decode cX5_fail 13 = .ok (.return_, 1) := by decide +kernel
theorem dX5_readHeader_0 : decode cX5_readHeader 0 = .ok (.aload_n 0, 1) := by decide +kernel
theorem dX5_readHeader_1 : decode cX5_readHeader 1 = .ok (.aload_n 0, 1) := by decide +kernel
theorem dX5_readHeader_2 : decode cX5_readHeader 2 = .ok (.getfield 34, 3) := by decide +kernel
theorem dX5_readHeader_5 : decode cX5_readHeader 5 = .ok (.iconst 4, 1) := by decide +kernel
theorem dX5_readHeader_6 : decode cX5_readHeader 6 = .ok (.iadd, 1) := by decide +kernel
theorem dX5_readHeader_7 : decode cX5_readHeader 7 = .ok (.putfield 40, 3) := by decide +kernel
theorem dX5_readHeader_10 : decode cX5_readHeader 10 = .ok (.aload_n 0, 1) := by decide +kernel
theorem dX5_readHeader_11 : decode cX5_readHeader 11 = .ok (.getfield 40, 3) := by decide +kernel
theorem dX5_readHeader_14 : decode cX5_readHeader 14 = .ok (.aload_n 1, 1) := by decide +kernel
theorem dX5_readHeader_15 : decode cX5_readHeader 15 = .ok (.getfield 59, 3) := by decide +kernel
theorem dX5_readHeader_18 : decode cX5_readHeader 18 = .ok (.if_icmp .le 10, 3) := by decide +kernel
theorem dX5_readHeader_21 : decode cX5_readHeader 21 = .ok (.aload_n 0, 1) := by decide +kernel
theorem dX5_readHeader_22 : decode cX5_readHeader 22 = .ok (.bipush 12, 2) := by decide +kernel
theorem dX5_readHeader_24 : decode cX5_readHeader 24 = .ok (.invokevirtual 56, 3) := by decide +kernel
theorem dX5_readHeader_27 : decode cX5_readHeader 27 = .ok (.return_, 1) := by decide +kernel
theorem dX5_readHeader_28 : decode cX5_readHeader 28 = .ok (.aload_n 0, 1) := by decide +kernel
theorem dX5_readHeader_29 : decode cX5_readHeader 29 = .ok (.aload_n 1, 1) := by decide +kernel
theorem dX5_readHeader_30 : decode cX5_readHeader 30 = .ok (.aload_n 0, 1) := by decide +kernel
theorem dX5_readHeader_31 : decode cX5_readHeader 31 = .ok (.getfield 34, 3) := by decide +kernel
theorem dX5_readHeader_34 : decode cX5_readHeader 34 = .ok (.invokevirtual 52, 3) := by decide +kernel
theorem dX5_readHeader_37 : decode cX5_readHeader 37 = .ok (.putfield 37, 3) := by decide +kernel
theorem dX5_readHeader_40 : decode cX5_readHeader 40 = .ok (.aload_n 0, 1) := by decide +kernel
theorem dX5_readHeader_41 : decode cX5_readHeader 41 = .ok (.aload_n 1, 1) := by decide +kernel
theorem dX5_readHeader_42 : decode cX5_readHeader 42 = .ok (.aload_n 0, 1) := by decide +kernel
theorem dX5_readHeader_43 : decode cX5_readHeader 43 = .ok (.getfield 34, 3) := by decide +kernel
theorem dX5_readHeader_46 : decode cX5_readHeader 46 = .ok (.iconst 1, 1) := by decide +kernel
theorem dX5_readHeader_47 : decode cX5_readHeader 47 = .ok (.iadd, 1) := by decide +kernel
theorem dX5_readHeader_48 : decode cX5_readHeader 48 = .ok (.iconst 3, 1) := by decide +kernel
theorem dX5_readHeader_49 : decode cX5_readHeader 49 = .ok (.invokevirtual 80, 3) := by decide +kernel
theorem dX5_readHeader_52 : decode cX5_readHeader 52 = .ok (.l2i, 1) := by decide +kernel
theorem dX5_readHeader_53 : decode cX5_readHeader 53 = .ok (.putfield 43, 3) := by decide +kernel
theorem dX5_readHeader_56 : decode cX5_readHeader 56 = .ok (.aload_n 0, 1) := by decide +kernel
theorem dX5_readHeader_57 : decode cX5_readHeader 57 = .ok (.getfield 43, 3) := by decide +kernel
theorem dX5_readHeader_60 : decode cX5_readHeader 60 = .ok (.aload_n 1, 1) := by decide +kernel
theorem dX5_readHeader_61 : decode cX5_readHeader 61 = .ok (.getfield 59, 3) := by decide +kernel
theorem dX5_readHeader_64 : decode cX5_readHeader 64 = .ok (.aload_n 0, 1) := by decide +kernel
theorem dX5_readHeader_65 : decode cX5_readHeader 65 = .ok (.getfield 40, 3) := by decide +kernel
theorem dX5_readHeader_68 : decode cX5_readHeader 68 = .ok (.isub, 1) := by decide +kernel
theorem dX5_readHeader_69 : decode cX5_readHeader 69 = .ok (.if_icmp .le 9, 3) := by decide +kernel
theorem dX5_readHeader_72 : decode cX5_readHeader 72 = .ok (.aload_n 0, 1) := by decide +kernel
theorem dX5_readHeader_73 : decode cX5_readHeader 73 = .ok (.bipush 12, 2) := by decide +kernel
theorem dX5_readHeader_75 : decode cX5_readHeader 75 = .ok (.invokevirtual 56, 3) := by decide +kernel
theorem dX5_readHeader_78 : decode cX5_readHeader 78 = .ok (.return_, 1) := by decide +kernel
theorem dX5_tellsBytes_0 : decode cX5_tellsBytes 0 = .ok (.aload_n 0, 1) := by decide +kernel
theorem dX5_tellsBytes_1 : decode cX5_tellsBytes 1 = .ok (.getfield 37, 3) := by decide +kernel
theorem dX5_tellsBytes_4 : decode cX5_tellsBytes 4 = .ok (.ifCond .eq 11, 3) := by decide +kernel
theorem dX5_tellsBytes_7 : decode cX5_tellsBytes 7 = .ok (.aload_n 0, 1) := by decide +kernel
theorem dX5_tellsBytes_8 : decode cX5_tellsBytes 8 = .ok (.getfield 37, 3) := by decide +kernel
theorem dX5_tellsBytes_11 : decode cX5_tellsBytes 11 = .ok (.iconst 1, 1) := by decide +kernel
theorem dX5_tellsBytes_12 : decode cX5_tellsBytes 12 = .ok (.if_icmp .ne 7, 3) := by decide +kernel
theorem dX5_tellsBytes_15 : decode cX5_tellsBytes 15 = .ok (.iconst 1, 1) := by decide +kernel
theorem dX5_tellsBytes_16 : decode cX5_tellsBytes 16 = .ok (.goto 4, 3) := by decide +kernel
theorem dX5_tellsBytes_19 : decode cX5_tellsBytes 19 = .ok (.iconst 0, 1) := by decide +kernel
theorem dX5_tellsBytes_20 : decode cX5_tellsBytes 20 = .ok (.ireturn, 1) := by decide +kernel
theorem dX5_checkChunk_0 : decode cX5_checkChunk 0 = .ok (.aload_n 0, 1) := by decide +kernel
theorem dX5_checkChunk_1 : decode cX5_checkChunk 1 = .ok (.getfield 37, 3) := by decide +kernel
theorem dX5_checkChunk_4 : decode cX5_checkChunk 4 = .ok (.sipush 255, 3) := by decide +kernel
theorem dX5_checkChunk_7 : decode cX5_checkChunk 7 = .ok (.if_icmp .ne 20, 3) := by decide +kernel
theorem dX5_checkChunk_10 : decode cX5_checkChunk 10 = .ok (.aload_n 0, 1) := by decide +kernel
theorem dX5_checkChunk_11 : decode cX5_checkChunk 11 = .ok (.aload_n 1, 1) := by decide +kernel
theorem dX5_checkChunk_12 : decode cX5_checkChunk 12 = .ok (.invokevirtual 84, 3) := by decide +kernel
theorem dX5_checkChunk_15 : decode cX5_checkChunk 15 = .ok (.ifCond .ne 52, 3) := by decide +kernel
theorem dX5_checkChunk_18 : decode cX5_checkChunk 18 = .ok (.aload_n 0, 1) := by decide +kernel
theorem dX5_checkChunk_19 : decode cX5_checkChunk 19 = .ok (.bipush 13, 2) := by decide +kernel
theorem dX5_checkChunk_21 : decode cX5_checkChunk 21 = .ok (.invokevirtual 56, 3) := by decide +kernel
theorem dX5_checkChunk_24 : decode cX5_checkChunk 24 = .ok (.goto 43, 3) := by decide +kernel
theorem dX5_checkChunk_27 : decode cX5_checkChunk 27 = .ok (.aload_n 0, 1) := by decide +kernel
theorem dX5_checkChunk_28 : decode cX5_checkChunk 28 = .ok (.invokevirtual 69, 3) := by decide +kernel
theorem dX5_checkChunk_31 : decode cX5_checkChunk 31 = .ok (.ifCond .eq 20, 3) := by decide +kernel
theorem dX5_checkChunk_34 : decode cX5_checkChunk 34 = .ok (.aload_n 0, 1) := by decide +kernel
theorem dX5_checkChunk_35 : decode cX5_checkChunk 35 = .ok (.getfield 43, 3) := by decide +kernel
theorem dX5_checkChunk_38 : decode cX5_checkChunk 38 = .ok (.iconst 4, 1) := by decide +kernel
theorem dX5_checkChunk_39 : decode cX5_checkChunk 39 = .ok (.if_icmp .ge 28, 3) := by decide +kernel
theorem dX5_checkChunk_42 : decode cX5_checkChunk 42 = .ok (.aload_n 0, 1) := by decide +kernel
theorem dX5_checkChunk_43 : decode cX5_checkChunk 43 = .ok (.bipush 15, 2) := by decide +kernel
theorem dX5_checkChunk_45 : decode cX5_checkChunk 45 = .ok (.invokevirtual 56, 3) := by decide +kernel
theorem dX5_checkChunk_48 : decode cX5_checkChunk 48 = .ok (.goto 19, 3) := by decide +kernel
theorem dX5_checkChunk_51 : decode cX5_checkChunk 51 = .ok (.aload_n 0, 1) := by decide +kernel
theorem dX5_checkChunk_52 : decode cX5_checkChunk 52 = .ok (.getfield 37, 3) := by decide +kernel
theorem dX5_checkChunk_55 : decode cX5_checkChunk 55 = .ok (.sipush 128, 3) := by decide +kernel
theorem dX5_checkChunk_58 : decode cX5_checkChunk 58 = .ok (.if_icmp .ge 9, 3) := by decide +kernel
theorem dX5_checkChunk_61 : decode cX5_checkChunk 61 = .ok (.aload_n 0, 1) := by decide +kernel
theorem dX5_checkChunk_62 : decode cX5_checkChunk 62 = .ok (.bipush 14, 2) := by decide +kernel
theorem dX5_checkChunk_64 : decode cX5_checkChunk 64 = .ok (.invokevirtual 56, 3) := by decide +kernel
theorem dX5_checkChunk_67 : decode cX5_checkChunk 67 = .ok (.return_, 1) := by decide +kernel
theorem dX5_isName_0 : decode cX5_isName 0 = .ok (.aload_n 0, 1) := by decide +kernel
theorem dX5_isName_1 : decode cX5_isName 1 = .ok (.getfield 43, 3) := by decide +kernel
theorem dX5_isName_4 : decode cX5_isName 4 = .ok (.bipush 6, 2) := by decide +kernel
theorem dX5_isName_6 : decode cX5_isName 6 = .ok (.if_icmp .ne 7, 3) := by decide +kernel
theorem dX5_isName_9 : decode cX5_isName 9 = .ok (.iconst 1, 1) := by decide +kernel
theorem dX5_isName_10 : decode cX5_isName 10 = .ok (.goto 4, 3) := by decide +kernel
theorem dX5_isName_13 : decode cX5_isName 13 = .ok (.iconst 0, 1) := by decide +kernel
theorem dX5_isName_14 : decode cX5_isName 14 = .ok (.istore_n 2, 1) := by decide +kernel
theorem dX5_isName_15 : decode cX5_isName 15 = .ok (.aload_n 0, 1) := by decide +kernel
theorem dX5_isName_16 : decode cX5_isName 16 = .ok (.getfield 40, 3) := by decide +kernel
theorem dX5_isName_19 : decode cX5_isName 19 = .ok (.istore_n 3, 1) := by decide +kernel
theorem dX5_isName_20 : decode cX5_isName 20 = .ok (.getstatic 88, 3) := by decide +kernel
theorem dX5_isName_23 : decode cX5_isName 23 = .ok (.astore 4, 2) := by decide +kernel
theorem dX5_isName_25 : decode cX5_isName 25 = .ok (.aload 4, 2) := by decide +kernel
theorem dX5_isName_27 : decode cX5_isName 27 = .ok (.arraylength, 1) := by decide +kernel
theorem dX5_isName_28 : decode cX5_isName 28 = .ok (.istore 5, 2) := by decide +kernel
theorem dX5_isName_30 : decode cX5_isName 30 = .ok (.iconst 0, 1) := by decide +kernel
theorem dX5_isName_31 : decode cX5_isName 31 = .ok (.istore 6, 2) := by decide +kernel
theorem dX5_isName_33 : decode cX5_isName 33 = .ok (.iload 6, 2) := by decide +kernel
theorem dX5_isName_35 : decode cX5_isName 35 = .ok (.iload 5, 2) := by decide +kernel
theorem dX5_isName_37 : decode cX5_isName 37 = .ok (.if_icmp .ge 39, 3) := by decide +kernel
theorem dX5_isName_40 : decode cX5_isName 40 = .ok (.aload 4, 2) := by decide +kernel
theorem dX5_isName_42 : decode cX5_isName 42 = .ok (.iload 6, 2) := by decide +kernel
theorem dX5_isName_44 : decode cX5_isName 44 = .ok (.iaload, 1) := by decide +kernel
theorem dX5_isName_45 : decode cX5_isName 45 = .ok (.istore 7, 2) := by decide +kernel
theorem dX5_isName_47 : decode cX5_isName 47 = .ok (.iload_n 2, 1) := by decide +kernel
theorem dX5_isName_48 : decode cX5_isName 48 = .ok (.ifCond .eq 17, 3) := by decide +kernel
theorem dX5_isName_51 : decode cX5_isName 51 = .ok (.aload_n 1, 1) := by decide +kernel
theorem dX5_isName_52 : decode cX5_isName 52 = .ok (.iload_n 3, 1) := by decide +kernel
theorem dX5_isName_53 : decode cX5_isName 53 = .ok (.invokevirtual 52, 3) := by decide +kernel
theorem dX5_isName_56 : decode cX5_isName 56 = .ok (.iload 7, 2) := by decide +kernel
theorem dX5_isName_58 : decode cX5_isName 58 = .ok (.if_icmp .ne 7, 3) := by decide +kernel
theorem dX5_isName_61 : decode cX5_isName 61 = .ok (.iconst 1, 1) := by decide +kernel
theorem dX5_isName_62 : decode cX5_isName 62 = .ok (.goto 4, 3) := by decide +kernel
theorem dX5_isName_65 : decode cX5_isName 65 = .ok (.iconst 0, 1) := by decide +kernel
theorem dX5_isName_66 : decode cX5_isName 66 = .ok (.istore_n 2, 1) := by decide +kernel
theorem dX5_isName_67 : decode cX5_isName 67 = .ok (.iinc 3 1, 3) := by decide +kernel
theorem dX5_isName_70 : decode cX5_isName 70 = .ok (.iinc 6 1, 3) := by decide +kernel
theorem dX5_isName_73 : decode cX5_isName 73 = .ok (.goto (-40), 3) := by decide +kernel
theorem dX5_isName_76 : decode cX5_isName 76 = .ok (.iload_n 2, 1) := by decide +kernel
theorem dX5_isName_77 : decode cX5_isName 77 = .ok (.ireturn, 1) := by decide +kernel
theorem dX5_openBytes_0 : decode cX5_openBytes 0 = .ok (.aload_n 0, 1) := by decide +kernel
theorem dX5_openBytes_1 : decode cX5_openBytes 1 = .ok (.getfield 40, 3) := by decide +kernel
theorem dX5_openBytes_4 : decode cX5_openBytes 4 = .ok (.iconst 4, 1) := by decide +kernel
theorem dX5_openBytes_5 : decode cX5_openBytes 5 = .ok (.iadd, 1) := by decide +kernel
theorem dX5_openBytes_6 : decode cX5_openBytes 6 = .ok (.istore_n 3, 1) := by decide +kernel
theorem dX5_openBytes_7 : decode cX5_openBytes 7 = .ok (.aload_n 0, 1) := by decide +kernel
theorem dX5_openBytes_8 : decode cX5_openBytes 8 = .ok (.getfield 43, 3) := by decide +kernel
theorem dX5_openBytes_11 : decode cX5_openBytes 11 = .ok (.iconst 4, 1) := by decide +kernel
theorem dX5_openBytes_12 : decode cX5_openBytes 12 = .ok (.isub, 1) := by decide +kernel
theorem dX5_openBytes_13 : decode cX5_openBytes 13 = .ok (.istore 4, 2) := by decide +kernel
theorem dX5_openBytes_15 : decode cX5_openBytes 15 = .ok (.aload_n 0, 1) := by decide +kernel
theorem dX5_openBytes_16 : decode cX5_openBytes 16 = .ok (.getfield 37, 3) := by decide +kernel
theorem dX5_openBytes_19 : decode cX5_openBytes 19 = .ok (.iconst 1, 1) := by decide +kernel
theorem dX5_openBytes_20 : decode cX5_openBytes 20 = .ok (.if_icmp .ne 13, 3) := by decide +kernel
theorem dX5_openBytes_23 : decode cX5_openBytes 23 = .ok (.aload_n 0, 1) := by decide +kernel
theorem dX5_openBytes_24 : decode cX5_openBytes 24 = .ok (.aload_n 1, 1) := by decide +kernel
theorem dX5_openBytes_25 : decode cX5_openBytes 25 = .ok (.aload_n 1, 1) := by decide +kernel
theorem dX5_openBytes_26 : decode cX5_openBytes 26 = .ok (.iload_n 3, 1) := by decide +kernel
theorem dX5_openBytes_27 : decode cX5_openBytes 27 = .ok (.iload 4, 2) := by decide +kernel
theorem dX5_openBytes_29 : decode cX5_openBytes 29 = .ok (.invokevirtual 92, 3) := by decide +kernel
theorem dX5_openBytes_32 : decode cX5_openBytes 32 = .ok (.return_, 1) := by decide +kernel
theorem dX5_openBytes_33 : decode cX5_openBytes 33 = .ok (.aload_n 2, 1) := by decide +kernel
theorem dX5_openBytes_34 : decode cX5_openBytes 34 = .ok (.aload_n 1, 1) := by decide +kernel
theorem dX5_openBytes_35 : decode cX5_openBytes 35 = .ok (.iload_n 3, 1) := by decide +kernel
theorem dX5_openBytes_36 : decode cX5_openBytes 36 = .ok (.iload 4, 2) := by decide +kernel
theorem dX5_openBytes_38 : decode cX5_openBytes 38 = .ok (.invokevirtual 96, 3) := by decide +kernel
theorem dX5_openBytes_41 : decode cX5_openBytes 41 = .ok (.aload_n 2, 1) := by decide +kernel
theorem dX5_openBytes_42 : decode cX5_openBytes 42 = .ok (.getfield 102, 3) := by decide +kernel
theorem dX5_openBytes_45 : decode cX5_openBytes 45 = .ok (.ifCond .eq 12, 3) := by decide +kernel
theorem dX5_openBytes_48 : decode cX5_openBytes 48 = .ok (.aload_n 0, 1) := by decide +kernel
theorem dX5_openBytes_49 : decode cX5_openBytes 49 = .ok (.bipush 16, 2) := by decide +kernel
theorem dX5_openBytes_51 : decode cX5_openBytes 51 = .ok (.invokevirtual 56, 3) := by decide +kernel
theorem dX5_openBytes_54 : decode cX5_openBytes 54 = .ok (.goto 20, 3) := by decide +kernel
theorem dX5_openBytes_57 : decode cX5_openBytes 57 = .ok (.aload_n 0, 1) := by decide +kernel
theorem dX5_openBytes_58 : decode cX5_openBytes 58 = .ok (.aload_n 1, 1) := by decide +kernel
theorem dX5_openBytes_59 : decode cX5_openBytes 59 = .ok (.aload_n 2, 1) := by decide +kernel
theorem dX5_openBytes_60 : decode cX5_openBytes 60 = .ok (.getfield 103, 3) := by decide +kernel
theorem dX5_openBytes_63 : decode cX5_openBytes 63 = .ok (.iconst 0, 1) := by decide +kernel
theorem dX5_openBytes_64 : decode cX5_openBytes 64 = .ok (.aload_n 2, 1) := by decide +kernel
theorem dX5_openBytes_65 : decode cX5_openBytes 65 = .ok (.getfield 103, 3) := by decide +kernel
theorem dX5_openBytes_68 : decode cX5_openBytes 68 = .ok (.getfield 59, 3) := by decide +kernel
theorem dX5_openBytes_71 : decode cX5_openBytes 71 = .ok (.invokevirtual 92, 3) := by decide +kernel
theorem dX5_openBytes_74 : decode cX5_openBytes 74 = .ok (.return_, 1) := by decide +kernel
theorem dX5_give_0 : decode cX5_give 0 = .ok (.aload_n 0, 1) := by decide +kernel
theorem dX5_give_1 : decode cX5_give 1 = .ok (.getfield 14, 3) := by decide +kernel
theorem dX5_give_4 : decode cX5_give 4 = .ok (.iload 4, 2) := by decide +kernel
theorem dX5_give_6 : decode cX5_give 6 = .ok (.invokevirtual 104, 3) := by decide +kernel
theorem dX5_give_9 : decode cX5_give 9 = .ok (.ifCond .ne 12, 3) := by decide +kernel
theorem dX5_give_12 : decode cX5_give 12 = .ok (.aload_n 0, 1) := by decide +kernel
theorem dX5_give_13 : decode cX5_give 13 = .ok (.bipush 17, 2) := by decide +kernel
theorem dX5_give_15 : decode cX5_give 15 = .ok (.invokevirtual 56, 3) := by decide +kernel
theorem dX5_give_18 : decode cX5_give 18 = .ok (.goto 43, 3) := by decide +kernel
theorem dX5_give_21 : decode cX5_give 21 = .ok (.aload_n 1, 1) := by decide +kernel
theorem dX5_give_22 : decode cX5_give 22 = .ok (.aload_n 0, 1) := by decide +kernel
theorem dX5_give_23 : decode cX5_give 23 = .ok (.getfield 40, 3) := by decide +kernel
theorem dX5_give_26 : decode cX5_give 26 = .ok (.iconst 4, 1) := by decide +kernel
theorem dX5_give_27 : decode cX5_give 27 = .ok (.invokevirtual 80, 3) := by decide +kernel
theorem dX5_give_30 : decode cX5_give 30 = .ok (.l2i, 1) := by decide +kernel
theorem dX5_give_31 : decode cX5_give 31 = .ok (.aload_n 2, 1) := by decide +kernel
theorem dX5_give_32 : decode cX5_give 32 = .ok (.iload_n 3, 1) := by decide +kernel
theorem dX5_give_33 : decode cX5_give 33 = .ok (.iload 4, 2) := by decide +kernel
theorem dX5_give_35 : decode cX5_give 35 = .ok (.invokevirtual 108, 3) := by decide +kernel
theorem dX5_give_38 : decode cX5_give 38 = .ok (.if_icmp .eq 12, 3) := by decide +kernel
theorem dX5_give_41 : decode cX5_give 41 = .ok (.aload_n 0, 1) := by decide +kernel
theorem dX5_give_42 : decode cX5_give 42 = .ok (.bipush 18, 2) := by decide +kernel
theorem dX5_give_44 : decode cX5_give 44 = .ok (.invokevirtual 56, 3) := by decide +kernel
theorem dX5_give_47 : decode cX5_give 47 = .ok (.goto 14, 3) := by decide +kernel
theorem dX5_give_50 : decode cX5_give 50 = .ok (.aload_n 0, 1) := by decide +kernel
theorem dX5_give_51 : decode cX5_give 51 = .ok (.getfield 14, 3) := by decide +kernel
theorem dX5_give_54 : decode cX5_give 54 = .ok (.aload_n 2, 1) := by decide +kernel
theorem dX5_give_55 : decode cX5_give 55 = .ok (.iload_n 3, 1) := by decide +kernel
theorem dX5_give_56 : decode cX5_give 56 = .ok (.iload 4, 2) := by decide +kernel
theorem dX5_give_58 : decode cX5_give 58 = .ok (.invokevirtual 112, 3) := by decide +kernel
theorem dX5_give_61 : decode cX5_give 61 = .ok (.return_, 1) := by decide +kernel
theorem dX5_keepChunk_0 : decode cX5_keepChunk 0 = .ok (.aload_n 0, 1) := by decide +kernel
theorem dX5_keepChunk_1 : decode cX5_keepChunk 1 = .ok (.getfield 37, 3) := by decide +kernel
theorem dX5_keepChunk_4 : decode cX5_keepChunk 4 = .ok (.sipush 128, 3) := by decide +kernel
theorem dX5_keepChunk_7 : decode cX5_keepChunk 7 = .ok (.if_icmp .lt 17, 3) := by decide +kernel
theorem dX5_keepChunk_10 : decode cX5_keepChunk 10 = .ok (.aload_n 0, 1) := by decide +kernel
theorem dX5_keepChunk_11 : decode cX5_keepChunk 11 = .ok (.getfield 37, 3) := by decide +kernel
theorem dX5_keepChunk_14 : decode cX5_keepChunk 14 = .ok (.sipush 255, 3) := by decide +kernel
theorem dX5_keepChunk_17 : decode cX5_keepChunk 17 = .ok (.if_icmp .ge 7, 3) := by decide +kernel
theorem dX5_keepChunk_20 : decode cX5_keepChunk 20 = .ok (.iconst 1, 1) := by decide +kernel
theorem dX5_keepChunk_21 : decode cX5_keepChunk 21 = .ok (.goto 4, 3) := by decide +kernel
theorem dX5_keepChunk_24 : decode cX5_keepChunk 24 = .ok (.iconst 0, 1) := by decide +kernel
theorem dX5_keepChunk_25 : decode cX5_keepChunk 25 = .ok (.istore_n 2, 1) := by decide +kernel
theorem dX5_keepChunk_26 : decode cX5_keepChunk 26 = .ok (.aload_n 0, 1) := by decide +kernel
theorem dX5_keepChunk_27 : decode cX5_keepChunk 27 = .ok (.getfield 23, 3) := by decide +kernel
theorem dX5_keepChunk_30 : decode cX5_keepChunk 30 = .ok (.aload_n 0, 1) := by decide +kernel
theorem dX5_keepChunk_31 : decode cX5_keepChunk 31 = .ok (.getfield 37, 3) := by decide +kernel
theorem dX5_keepChunk_34 : decode cX5_keepChunk 34 = .ok (.aload_n 0, 1) := by decide +kernel
theorem dX5_keepChunk_35 : decode cX5_keepChunk 35 = .ok (.getfield 34, 3) := by decide +kernel
theorem dX5_keepChunk_38 : decode cX5_keepChunk 38 = .ok (.aload_n 0, 1) := by decide +kernel
theorem dX5_keepChunk_39 : decode cX5_keepChunk 39 = .ok (.getfield 43, 3) := by decide +kernel
theorem dX5_keepChunk_42 : decode cX5_keepChunk 42 = .ok (.aload_n 0, 1) := by decide +kernel
theorem dX5_keepChunk_43 : decode cX5_keepChunk 43 = .ok (.getfield 14, 3) := by decide +kernel
theorem dX5_keepChunk_46 : decode cX5_keepChunk 46 = .ok (.getfield 59, 3) := by decide +kernel
theorem dX5_keepChunk_49 : decode cX5_keepChunk 49 = .ok (.iload_n 1, 1) := by decide +kernel
theorem dX5_keepChunk_50 : decode cX5_keepChunk 50 = .ok (.isub, 1) := by decide +kernel
theorem dX5_keepChunk_51 : decode cX5_keepChunk 51 = .ok (.iload_n 1, 1) := by decide +kernel
theorem dX5_keepChunk_52 : decode cX5_keepChunk 52 = .ok (.iload_n 2, 1) := by decide +kernel
theorem dX5_keepChunk_53 : decode cX5_keepChunk 53 = .ok (.invokevirtual 115, 3) := by decide +kernel
theorem dX5_keepChunk_56 : decode cX5_keepChunk 56 = .ok (.aload_n 0, 1) := by decide +kernel
theorem dX5_keepChunk_57 : decode cX5_keepChunk 57 = .ok (.aload_n 0, 1) := by decide +kernel
theorem dX5_keepChunk_58 : decode cX5_keepChunk 58 = .ok (.getfield 40, 3) := by decide +kernel
theorem dX5_keepChunk_61 : decode cX5_keepChunk 61 = .ok (.aload_n 0, 1) := by decide +kernel
theorem dX5_keepChunk_62 : decode cX5_keepChunk 62 = .ok (.getfield 43, 3) := by decide +kernel
theorem dX5_keepChunk_65 : decode cX5_keepChunk 65 = .ok (.iadd, 1) := by decide +kernel
theorem dX5_keepChunk_66 : decode cX5_keepChunk 66 = .ok (.putfield 34, 3) := by decide +kernel
theorem dX5_keepChunk_69 : decode cX5_keepChunk 69 = .ok (.return_, 1) := by decide +kernel
theorem dX6_init_0 : decode cX6_init 0 = .ok (.aload_n 0, 1) := by decide +kernel
theorem dX6_init_1 : decode cX6_init 1 = .ok (.invokespecial 1, 3) := by decide +kernel
theorem dX6_init_4 : decode cX6_init 4 = .ok (.aload_n 0, 1) := by decide +kernel
theorem dX6_init_5 : decode cX6_init 5 = .ok (.new 7, 3) := by decide +kernel
theorem dX6_init_8 : decode cX6_init 8 = .ok (.dup, 1) := by decide +kernel
theorem dX6_init_9 : decode cX6_init 9 = .ok (.sipush 20000, 3) := by decide +kernel
theorem dX6_init_12 : decode cX6_init 12 = .ok (.invokespecial 11, 3) := by decide +kernel
theorem dX6_init_15 : decode cX6_init 15 = .ok (.putfield 14, 3) := by decide +kernel
theorem dX6_init_18 : decode cX6_init 18 = .ok (.aload_n 0, 1) := by decide +kernel
theorem dX6_init_19 : decode cX6_init 19 = .ok (.new 7, 3) := by decide +kernel
theorem dX6_init_22 : decode cX6_init 22 = .ok (.dup, 1) := by decide +kernel
theorem dX6_init_23 : decode cX6_init 23 = .ok (.sipush 24000, 3) := by decide +kernel
theorem dX6_init_26 : decode cX6_init 26 = .ok (.invokespecial 11, 3) := by decide +kernel
theorem dX6_init_29 : decode cX6_init 29 = .ok (.putfield 18, 3) := by decide +kernel
theorem dX6_init_32 : decode cX6_init 32 = .ok (.aload_n 0, 1) := by decide +kernel
theorem dX6_init_33 : decode cX6_init 33 = .ok (.new 21, 3) := by decide +kernel
theorem dX6_init_36 : decode cX6_init 36 = .ok (.dup, 1) := by decide +kernel
theorem dX6_init_37 : decode cX6_init 37 = .ok (.invokespecial 23, 3) := by decide +kernel
theorem dX6_init_40 : decode cX6_init 40 = .ok (.putfield 24, 3) := by decide +kernel
theorem dX6_init_43 : decode cX6_init 43 = .ok (.aload_n 0, 1) := by decide +kernel
theorem dX6_init_44 : decode cX6_init 44 = .ok (.new 28, 3) := by decide +kernel
theorem dX6_init_47 : decode cX6_init 47 = .ok (.dup, 1) := by decide +kernel
theorem dX6_init_48 : decode cX6_init 48 = .ok (.invokespecial 30, 3) := by decide +kernel
theorem dX6_init_51 : decode cX6_init 51 = .ok (.putfield 31, 3) := by decide +kernel
theorem dX6_init_54 : decode cX6_init 54 = .ok (.aload_n 0, 1) := by decide +kernel
theorem dX6_init_55 : decode cX6_init 55 = .ok (.new 35, 3) := by decide +kernel
theorem dX6_init_58 : decode cX6_init 58 = .ok (.dup, 1) := by decide +kernel
theorem dX6_init_59 : decode cX6_init 59 = .ok (.invokespecial 37, 3) := by decide +kernel
theorem dX6_init_62 : decode cX6_init 62 = .ok (.putfield 38, 3) := by decide +kernel
theorem dX6_init_65 : decode cX6_init 65 = .ok (.aload_n 0, 1) := by decide +kernel
theorem dX6_init_66 : decode cX6_init 66 = .ok (.new 42, 3) := by decide +kernel
theorem dX6_init_69 : decode cX6_init 69 = .ok (.dup, 1) := by decide +kernel
theorem dX6_init_70 : decode cX6_init 70 = .ok (.invokespecial 44, 3) := by decide +kernel
theorem dX6_init_73 : decode cX6_init 73 = .ok (.putfield 45, 3) := by decide +kernel
theorem dX6_init_76 : decode cX6_init 76 = .ok (.aload_n 0, 1) := by decide +kernel
theorem dX6_init_77 : decode cX6_init 77 = .ok (.new 49, 3) := by decide +kernel
theorem dX6_init_80 : decode cX6_init 80 = .ok (.dup, 1) := by decide +kernel
theorem dX6_init_81 : decode cX6_init 81 = .ok (.invokespecial 51, 3) := by decide +kernel
theorem dX6_init_84 : decode cX6_init 84 = .ok (.putfield 52, 3) := by decide +kernel
theorem dX6_init_87 : decode cX6_init 87 = .ok (.aload_n 0, 1) := by decide +kernel
theorem dX6_init_88 : decode cX6_init 88 = .ok (.new 49, 3) := by decide +kernel
theorem dX6_init_91 : decode cX6_init 91 = .ok (.dup, 1) := by decide +kernel
theorem dX6_init_92 : decode cX6_init 92 = .ok (.invokespecial 51, 3) := by decide +kernel
theorem dX6_init_95 : decode cX6_init 95 = .ok (.putfield 56, 3) := by decide +kernel
theorem dX6_init_98 : decode cX6_init 98 = .ok (.aload_n 0, 1) := by decide +kernel
theorem dX6_init_99 : decode cX6_init 99 = .ok (.iconst (-1), 1) := by decide +kernel
theorem dX6_init_100 : decode cX6_init 100 = .ok (.putfield 59, 3) := by decide +kernel
theorem dX6_init_103 : decode cX6_init 103 = .ok (.aload_n 0, 1) := by decide +kernel
theorem dX6_init_104 : decode cX6_init 104 = .ok (.iconst (-1), 1) := by decide +kernel
theorem dX6_init_105 : decode cX6_init 105 = .ok (.putfield 63, 3) := by decide +kernel
theorem dX6_init_108 : decode cX6_init 108 = .ok (.aload_n 0, 1) := by decide +kernel
theorem dX6_init_109 : decode cX6_init 109 = .ok (.iconst (-1), 1) := by decide +kernel
theorem dX6_init_110 : decode cX6_init 110 = .ok (.putfield 66, 3) := by decide +kernel
theorem dX6_init_113 : decode cX6_init 113 = .ok (.aload_n 0, 1) := by decide +kernel
theorem dX6_init_114 : decode cX6_init 114 = .ok (.iconst (-1), 1) := by decide +kernel
theorem dX6_init_115 : decode cX6_init 115 = .ok (.putfield 69, 3) := by decide +kernel
theorem dX6_init_118 : decode cX6_init 118 = .ok (.return_, 1) := by decide +kernel
theorem dX6_feed_0 : decode cX6_feed 0 = .ok (.aload_n 0, 1) := by decide +kernel
theorem dX6_feed_1 : decode cX6_feed 1 = .ok (.getfield 14, 3) := by decide +kernel
theorem dX6_feed_4 : decode cX6_feed 4 = .ok (.bipush 20, 2) := by decide +kernel
theorem dX6_feed_6 : decode cX6_feed 6 = .ok (.invokevirtual 72, 3) := by decide +kernel
theorem dX6_feed_9 : decode cX6_feed 9 = .ok (.ifCond .ne 5, 3) := by decide +kernel
theorem dX6_feed_12 : decode cX6_feed 12 = .ok (.iconst (-1), 1) := by decide +kernel
theorem dX6_feed_13 : decode cX6_feed 13 = .ok (.ireturn, 1) := by decide +kernel
theorem dX6_feed_14 : decode cX6_feed 14 = .ok (.aload_n 0, 1) := by decide +kernel
theorem dX6_feed_15 : decode cX6_feed 15 = .ok (.getfield 14, 3) := by decide +kernel
theorem dX6_feed_18 : decode cX6_feed 18 = .ok (.iload_n 1, 1) := by decide +kernel
theorem dX6_feed_19 : decode cX6_feed 19 = .ok (.invokevirtual 76, 3) := by decide +kernel
theorem dX6_feed_22 : decode cX6_feed 22 = .ok (.aload_n 0, 1) := by decide +kernel
theorem dX6_feed_23 : decode cX6_feed 23 = .ok (.getfield 14, 3) := by decide +kernel
theorem dX6_feed_26 : decode cX6_feed 26 = .ok (.iload_n 2, 1) := by decide +kernel
theorem dX6_feed_27 : decode cX6_feed 27 = .ok (.invokevirtual 76, 3) := by decide +kernel
theorem dX6_feed_30 : decode cX6_feed 30 = .ok (.aload_n 0, 1) := by decide +kernel
