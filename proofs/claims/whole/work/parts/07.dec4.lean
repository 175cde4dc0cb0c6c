theorem dX7_isReflection_83 : decode mi_X7_isReflection.2.1 83 = .ok (.iload 5, 2) := by decide +kernel
theorem dX7_isReflection_85 : decode mi_X7_isReflection.2.1 85 = .ok (.idiv, 1) := by decide +kernel
theorem dX7_isReflection_86 : decode mi_X7_isReflection.2.1 86 = .ok (.imul, 1) := by decide +kernel
theorem dX7_isReflection_87 : decode mi_X7_isReflection.2.1 87 = .ok (.invokevirtual 55, 3) := by decide +kernel
theorem dX7_isReflection_90 : decode mi_X7_isReflection.2.1 90 = .ok (.aload_n 0, 1) := by decide +kernel
theorem dX7_isReflection_91 : decode mi_X7_isReflection.2.1 91 = .ok (.iload_n 1, 1) := by decide +kernel
theorem dX7_isReflection_92 : decode mi_X7_isReflection.2.1 92 = .ok (.invokevirtual 62, 3) := by decide +kernel
theorem dX7_isReflection_95 : decode mi_X7_isReflection.2.1 95 = .ok (.if_icmp .ne 27, 3) := by decide +kernel
theorem dX7_isReflection_98 : decode mi_X7_isReflection.2.1 98 = .ok (.aload_n 0, 1) := by decide +kernel
theorem dX7_isReflection_99 : decode mi_X7_isReflection.2.1 99 = .ok (.iload 7, 2) := by decide +kernel
theorem dX7_isReflection_101 : decode mi_X7_isReflection.2.1 101 = .ok (.iload 4, 2) := by decide +kernel
theorem dX7_isReflection_103 : decode mi_X7_isReflection.2.1 103 = .ok (.iload 5, 2) := by decide +kernel
theorem dX7_isReflection_105 : decode mi_X7_isReflection.2.1 105 = .ok (.idiv, 1) := by decide +kernel
theorem dX7_isReflection_106 : decode mi_X7_isReflection.2.1 106 = .ok (.imul, 1) := by decide +kernel
theorem dX7_isReflection_107 : decode mi_X7_isReflection.2.1 107 = .ok (.invokevirtual 55, 3) := by decide +kernel
theorem dX7_isReflection_110 : decode mi_X7_isReflection.2.1 110 = .ok (.aload_n 0, 1) := by decide +kernel
theorem dX7_isReflection_111 : decode mi_X7_isReflection.2.1 111 = .ok (.iload_n 1, 1) := by decide +kernel
theorem dX7_isReflection_112 : decode mi_X7_isReflection.2.1 112 = .ok (.invokevirtual 65, 3) := by decide +kernel
theorem dX7_isReflection_115 : decode mi_X7_isReflection.2.1 115 = .ok (.if_icmp .ne 7, 3) := by decide +kernel
theorem dX7_isReflection_118 : decode mi_X7_isReflection.2.1 118 = .ok (.iconst 1, 1) := by decide +kernel
theorem dX7_isReflection_119 : decode mi_X7_isReflection.2.1 119 = .ok (.goto 4, 3) := by decide +kernel
theorem dX7_isReflection_122 : decode mi_X7_isReflection.2.1 122 = .ok (.iconst 0, 1) := by decide +kernel
theorem dX7_isReflection_123 : decode mi_X7_isReflection.2.1 123 = .ok (.istore 6, 2) := by decide +kernel
theorem dX7_isReflection_125 : decode mi_X7_isReflection.2.1 125 = .ok (.iinc 7 1, 3) := by decide +kernel
theorem dX7_isReflection_128 : decode mi_X7_isReflection.2.1 128 = .ok (.goto (-65), 3) := by decide +kernel
theorem dX7_isReflection_131 : decode mi_X7_isReflection.2.1 131 = .ok (.iload 6, 2) := by decide +kernel
theorem dX7_isReflection_133 : decode mi_X7_isReflection.2.1 133 = .ok (.ireturn, 1) := by decide +kernel
theorem dX7_kindOfCode_0 : decode mi_X7_kindOfCode.2.1 0 = .ok (.aload_n 0, 1) := by decide +kernel
theorem dX7_kindOfCode_1 : decode mi_X7_kindOfCode.2.1 1 = .ok (.iload_n 1, 1) := by decide +kernel
theorem dX7_kindOfCode_2 : decode mi_X7_kindOfCode.2.1 2 = .ok (.invokevirtual 59, 3) := by decide +kernel
theorem dX7_kindOfCode_5 : decode mi_X7_kindOfCode.2.1 5 = .ok (.istore_n 2, 1) := by decide +kernel
theorem dX7_kindOfCode_6 : decode mi_X7_kindOfCode.2.1 6 = .ok (.iload_n 2, 1) := by decide +kernel
theorem dX7_kindOfCode_7 : decode mi_X7_kindOfCode.2.1 7 = .ok (.ifCond .ne 7, 3) := by decide +kernel
theorem dX7_kindOfCode_10 : decode mi_X7_kindOfCode.2.1 10 = .ok (.iconst 0, 1) := by decide +kernel
theorem dX7_kindOfCode_11 : decode mi_X7_kindOfCode.2.1 11 = .ok (.goto 28, 3) := by decide +kernel
theorem dX7_kindOfCode_14 : decode mi_X7_kindOfCode.2.1 14 = .ok (.aload_n 0, 1) := by decide +kernel
theorem dX7_kindOfCode_15 : decode mi_X7_kindOfCode.2.1 15 = .ok (.iload_n 2, 1) := by decide +kernel
theorem dX7_kindOfCode_16 : decode mi_X7_kindOfCode.2.1 16 = .ok (.invokevirtual 85, 3) := by decide +kernel
theorem dX7_kindOfCode_19 : decode mi_X7_kindOfCode.2.1 19 = .ok (.ifCond .eq 7, 3) := by decide +kernel
theorem dX7_kindOfCode_22 : decode mi_X7_kindOfCode.2.1 22 = .ok (.iconst 1, 1) := by decide +kernel
theorem dX7_kindOfCode_23 : decode mi_X7_kindOfCode.2.1 23 = .ok (.goto 16, 3) := by decide +kernel
theorem dX7_kindOfCode_26 : decode mi_X7_kindOfCode.2.1 26 = .ok (.aload_n 0, 1) := by decide +kernel
theorem dX7_kindOfCode_27 : decode mi_X7_kindOfCode.2.1 27 = .ok (.iload_n 1, 1) := by decide +kernel
theorem dX7_kindOfCode_28 : decode mi_X7_kindOfCode.2.1 28 = .ok (.invokevirtual 89, 3) := by decide +kernel
theorem dX7_kindOfCode_31 : decode mi_X7_kindOfCode.2.1 31 = .ok (.ifCond .eq 7, 3) := by decide +kernel
theorem dX7_kindOfCode_34 : decode mi_X7_kindOfCode.2.1 34 = .ok (.iconst 2, 1) := by decide +kernel
theorem dX7_kindOfCode_35 : decode mi_X7_kindOfCode.2.1 35 = .ok (.goto 4, 3) := by decide +kernel
theorem dX7_kindOfCode_38 : decode mi_X7_kindOfCode.2.1 38 = .ok (.iconst 3, 1) := by decide +kernel
theorem dX7_kindOfCode_39 : decode mi_X7_kindOfCode.2.1 39 = .ok (.ireturn, 1) := by decide +kernel
theorem dX7_addElement_0 : decode mi_X7_addElement.2.1 0 = .ok (.aload_n 0, 1) := by decide +kernel
theorem dX7_addElement_1 : decode mi_X7_addElement.2.1 1 = .ok (.getfield 22, 3) := by decide +kernel
theorem dX7_addElement_4 : decode mi_X7_addElement.2.1 4 = .ok (.iload_n 1, 1) := by decide +kernel
theorem dX7_addElement_5 : decode mi_X7_addElement.2.1 5 = .ok (.baload, 1) := by decide +kernel
theorem dX7_addElement_6 : decode mi_X7_addElement.2.1 6 = .ok (.ifCond .ne 30, 3) := by decide +kernel
theorem dX7_addElement_9 : decode mi_X7_addElement.2.1 9 = .ok (.aload_n 0, 1) := by decide +kernel
theorem dX7_addElement_10 : decode mi_X7_addElement.2.1 10 = .ok (.getfield 22, 3) := by decide +kernel
theorem dX7_addElement_13 : decode mi_X7_addElement.2.1 13 = .ok (.iload_n 1, 1) := by decide +kernel
theorem dX7_addElement_14 : decode mi_X7_addElement.2.1 14 = .ok (.iconst 1, 1) := by decide +kernel
theorem dX7_addElement_15 : decode mi_X7_addElement.2.1 15 = .ok (.bastore, 1) := by decide +kernel
theorem dX7_addElement_16 : decode mi_X7_addElement.2.1 16 = .ok (.aload_n 0, 1) := by decide +kernel
theorem dX7_addElement_17 : decode mi_X7_addElement.2.1 17 = .ok (.getfield 26, 3) := by decide +kernel
theorem dX7_addElement_20 : decode mi_X7_addElement.2.1 20 = .ok (.aload_n 0, 1) := by decide +kernel
theorem dX7_addElement_21 : decode mi_X7_addElement.2.1 21 = .ok (.getfield 92, 3) := by decide +kernel
theorem dX7_addElement_24 : decode mi_X7_addElement.2.1 24 = .ok (.iload_n 1, 1) := by decide +kernel
theorem dX7_addElement_25 : decode mi_X7_addElement.2.1 25 = .ok (.iastore, 1) := by decide +kernel
theorem dX7_addElement_26 : decode mi_X7_addElement.2.1 26 = .ok (.aload_n 0, 1) := by decide +kernel
theorem dX7_addElement_27 : decode mi_X7_addElement.2.1 27 = .ok (.dup, 1) := by decide +kernel
theorem dX7_addElement_28 : decode mi_X7_addElement.2.1 28 = .ok (.getfield 92, 3) := by decide +kernel
theorem dX7_addElement_31 : decode mi_X7_addElement.2.1 31 = .ok (.iconst 1, 1) := by decide +kernel
theorem dX7_addElement_32 : decode mi_X7_addElement.2.1 32 = .ok (.iadd, 1) := by decide +kernel
theorem dX7_addElement_33 : decode mi_X7_addElement.2.1 33 = .ok (.putfield 92, 3) := by decide +kernel
theorem dX7_addElement_36 : decode mi_X7_addElement.2.1 36 = .ok (.return_, 1) := by decide +kernel
theorem dX7_derive_0 : decode mi_X7_derive.2.1 0 = .ok (.aload_n 0, 1) := by decide +kernel
theorem dX7_derive_1 : decode mi_X7_derive.2.1 1 = .ok (.invokevirtual 95, 3) := by decide +kernel
theorem dX7_derive_4 : decode mi_X7_derive.2.1 4 = .ok (.iconst 0, 1) := by decide +kernel
theorem dX7_derive_5 : decode mi_X7_derive.2.1 5 = .ok (.istore_n 1, 1) := by decide +kernel
theorem dX7_derive_6 : decode mi_X7_derive.2.1 6 = .ok (.iload_n 1, 1) := by decide +kernel
theorem dX7_derive_7 : decode mi_X7_derive.2.1 7 = .ok (.sipush 300, 3) := by decide +kernel
theorem dX7_derive_10 : decode mi_X7_derive.2.1 10 = .ok (.if_icmp .ge 16, 3) := by decide +kernel
theorem dX7_derive_13 : decode mi_X7_derive.2.1 13 = .ok (.aload_n 0, 1) := by decide +kernel
theorem dX7_derive_14 : decode mi_X7_derive.2.1 14 = .ok (.getfield 22, 3) := by decide +kernel
theorem dX7_derive_17 : decode mi_X7_derive.2.1 17 = .ok (.iload_n 1, 1) := by decide +kernel
theorem dX7_derive_18 : decode mi_X7_derive.2.1 18 = .ok (.iconst 0, 1) := by decide +kernel
theorem dX7_derive_19 : decode mi_X7_derive.2.1 19 = .ok (.bastore, 1) := by decide +kernel
theorem dX7_derive_20 : decode mi_X7_derive.2.1 20 = .ok (.iinc 1 1, 3) := by decide +kernel
theorem dX7_derive_23 : decode mi_X7_derive.2.1 23 = .ok (.goto (-17), 3) := by decide +kernel
theorem dX7_derive_26 : decode mi_X7_derive.2.1 26 = .ok (.aload_n 0, 1) := by decide +kernel
theorem dX7_derive_27 : decode mi_X7_derive.2.1 27 = .ok (.iconst 0, 1) := by decide +kernel
theorem dX7_derive_28 : decode mi_X7_derive.2.1 28 = .ok (.putfield 92, 3) := by decide +kernel
theorem dX7_derive_31 : decode mi_X7_derive.2.1 31 = .ok (.aload_n 0, 1) := by decide +kernel
theorem dX7_derive_32 : decode mi_X7_derive.2.1 32 = .ok (.iconst 0, 1) := by decide +kernel
theorem dX7_derive_33 : decode mi_X7_derive.2.1 33 = .ok (.invokevirtual 98, 3) := by decide +kernel
theorem dX7_derive_36 : decode mi_X7_derive.2.1 36 = .ok (.iconst 0, 1) := by decide +kernel
theorem dX7_derive_37 : decode mi_X7_derive.2.1 37 = .ok (.istore_n 1, 1) := by decide +kernel
theorem dX7_derive_38 : decode mi_X7_derive.2.1 38 = .ok (.iload_n 1, 1) := by decide +kernel
theorem dX7_derive_39 : decode mi_X7_derive.2.1 39 = .ok (.aload_n 0, 1) := by decide +kernel
theorem dX7_derive_40 : decode mi_X7_derive.2.1 40 = .ok (.getfield 92, 3) := by decide +kernel
theorem dX7_derive_43 : decode mi_X7_derive.2.1 43 = .ok (.if_icmp .ge 49, 3) := by decide +kernel
theorem dX7_derive_46 : decode mi_X7_derive.2.1 46 = .ok (.iconst 0, 1) := by decide +kernel
theorem dX7_derive_47 : decode mi_X7_derive.2.1 47 = .ok (.istore_n 2, 1) := by decide +kernel
theorem dX7_derive_48 : decode mi_X7_derive.2.1 48 = .ok (.iload_n 2, 1) := by decide +kernel
theorem dX7_derive_49 : decode mi_X7_derive.2.1 49 = .ok (.aload_n 0, 1) := by decide +kernel
theorem dX7_derive_50 : decode mi_X7_derive.2.1 50 = .ok (.getfield 7, 3) := by decide +kernel
theorem dX7_derive_53 : decode mi_X7_derive.2.1 53 = .ok (.iconst 2, 1) := by decide +kernel
theorem dX7_derive_54 : decode mi_X7_derive.2.1 54 = .ok (.iaload, 1) := by decide +kernel
theorem dX7_derive_55 : decode mi_X7_derive.2.1 55 = .ok (.if_icmp .ge 31, 3) := by decide +kernel
theorem dX7_derive_58 : decode mi_X7_derive.2.1 58 = .ok (.aload_n 0, 1) := by decide +kernel
theorem dX7_derive_59 : decode mi_X7_derive.2.1 59 = .ok (.aload_n 0, 1) := by decide +kernel
theorem dX7_derive_60 : decode mi_X7_derive.2.1 60 = .ok (.aload_n 0, 1) := by decide +kernel
theorem dX7_derive_61 : decode mi_X7_derive.2.1 61 = .ok (.getfield 26, 3) := by decide +kernel
theorem dX7_derive_64 : decode mi_X7_derive.2.1 64 = .ok (.iload_n 1, 1) := by decide +kernel
theorem dX7_derive_65 : decode mi_X7_derive.2.1 65 = .ok (.iaload, 1) := by decide +kernel
theorem dX7_derive_66 : decode mi_X7_derive.2.1 66 = .ok (.aload_n 0, 1) := by decide +kernel
theorem dX7_derive_67 : decode mi_X7_derive.2.1 67 = .ok (.getfield 7, 3) := by decide +kernel
theorem dX7_derive_70 : decode mi_X7_derive.2.1 70 = .ok (.iconst 3, 1) := by decide +kernel
theorem dX7_derive_71 : decode mi_X7_derive.2.1 71 = .ok (.iload_n 2, 1) := by decide +kernel
theorem dX7_derive_72 : decode mi_X7_derive.2.1 72 = .ok (.iadd, 1) := by decide +kernel
theorem dX7_derive_73 : decode mi_X7_derive.2.1 73 = .ok (.iaload, 1) := by decide +kernel
theorem dX7_derive_74 : decode mi_X7_derive.2.1 74 = .ok (.invokevirtual 102, 3) := by decide +kernel
theorem dX7_derive_77 : decode mi_X7_derive.2.1 77 = .ok (.invokevirtual 98, 3) := by decide +kernel
theorem dX7_derive_80 : decode mi_X7_derive.2.1 80 = .ok (.iinc 2 1, 3) := by decide +kernel
theorem dX7_derive_83 : decode mi_X7_derive.2.1 83 = .ok (.goto (-35), 3) := by decide +kernel
theorem dX7_derive_86 : decode mi_X7_derive.2.1 86 = .ok (.iinc 1 1, 3) := by decide +kernel
theorem dX7_derive_89 : decode mi_X7_derive.2.1 89 = .ok (.goto (-51), 3) := by decide +kernel
theorem dX7_derive_92 : decode mi_X7_derive.2.1 92 = .ok (.return_, 1) := by decide +kernel
theorem dX7_save_0 : decode mi_X7_save.2.1 0 = .ok (.aload_n 0, 1) := by decide +kernel
theorem dX7_save_1 : decode mi_X7_save.2.1 1 = .ok (.getfield 105, 3) := by decide +kernel
theorem dX7_save_4 : decode mi_X7_save.2.1 4 = .ok (.iconst 4, 1) := by decide +kernel
theorem dX7_save_5 : decode mi_X7_save.2.1 5 = .ok (.if_icmp .ne 42, 3) := by decide +kernel
theorem dX7_save_8 : decode mi_X7_save.2.1 8 = .ok (.iconst 0, 1) := by decide +kernel
theorem dX7_save_9 : decode mi_X7_save.2.1 9 = .ok (.istore_n 1, 1) := by decide +kernel
theorem dX7_save_10 : decode mi_X7_save.2.1 10 = .ok (.iload_n 1, 1) := by decide +kernel
theorem dX7_save_11 : decode mi_X7_save.2.1 11 = .ok (.bipush 21, 2) := by decide +kernel
theorem dX7_save_13 : decode mi_X7_save.2.1 13 = .ok (.if_icmp .ge 24, 3) := by decide +kernel
theorem dX7_save_16 : decode mi_X7_save.2.1 16 = .ok (.aload_n 0, 1) := by decide +kernel
theorem dX7_save_17 : decode mi_X7_save.2.1 17 = .ok (.getfield 13, 3) := by decide +kernel
theorem dX7_save_20 : decode mi_X7_save.2.1 20 = .ok (.iload_n 1, 1) := by decide +kernel
theorem dX7_save_21 : decode mi_X7_save.2.1 21 = .ok (.aload_n 0, 1) := by decide +kernel
theorem dX7_save_22 : decode mi_X7_save.2.1 22 = .ok (.getfield 13, 3) := by decide +kernel
theorem dX7_save_25 : decode mi_X7_save.2.1 25 = .ok (.iload_n 1, 1) := by decide +kernel
theorem dX7_save_26 : decode mi_X7_save.2.1 26 = .ok (.bipush 7, 2) := by decide +kernel
theorem dX7_save_28 : decode mi_X7_save.2.1 28 = .ok (.iadd, 1) := by decide +kernel
theorem dX7_save_29 : decode mi_X7_save.2.1 29 = .ok (.iaload, 1) := by decide +kernel
theorem dX7_save_30 : decode mi_X7_save.2.1 30 = .ok (.iastore, 1) := by decide +kernel
theorem dX7_save_31 : decode mi_X7_save.2.1 31 = .ok (.iinc 1 1, 3) := by decide +kernel
theorem dX7_save_34 : decode mi_X7_save.2.1 34 = .ok (.goto (-24), 3) := by decide +kernel
theorem dX7_save_37 : decode mi_X7_save.2.1 37 = .ok (.aload_n 0, 1) := by decide +kernel
theorem dX7_save_38 : decode mi_X7_save.2.1 38 = .ok (.dup, 1) := by decide +kernel
theorem dX7_save_39 : decode mi_X7_save.2.1 39 = .ok (.getfield 105, 3) := by decide +kernel
theorem dX7_save_42 : decode mi_X7_save.2.1 42 = .ok (.iconst 1, 1) := by decide +kernel
theorem dX7_save_43 : decode mi_X7_save.2.1 43 = .ok (.isub, 1) := by decide +kernel
theorem dX7_save_44 : decode mi_X7_save.2.1 44 = .ok (.putfield 105, 3) := by decide +kernel
theorem dX7_save_47 : decode mi_X7_save.2.1 47 = .ok (.iconst 0, 1) := by decide +kernel
theorem dX7_save_48 : decode mi_X7_save.2.1 48 = .ok (.istore_n 1, 1) := by decide +kernel
theorem dX7_save_49 : decode mi_X7_save.2.1 49 = .ok (.iload_n 1, 1) := by decide +kernel
theorem dX7_save_50 : decode mi_X7_save.2.1 50 = .ok (.bipush 7, 2) := by decide +kernel
theorem dX7_save_52 : decode mi_X7_save.2.1 52 = .ok (.if_icmp .ge 29, 3) := by decide +kernel
theorem dX7_save_55 : decode mi_X7_save.2.1 55 = .ok (.aload_n 0, 1) := by decide +kernel
theorem dX7_save_56 : decode mi_X7_save.2.1 56 = .ok (.getfield 13, 3) := by decide +kernel
theorem dX7_save_59 : decode mi_X7_save.2.1 59 = .ok (.bipush 7, 2) := by decide +kernel
theorem dX7_save_61 : decode mi_X7_save.2.1 61 = .ok (.aload_n 0, 1) := by decide +kernel
theorem dX7_save_62 : decode mi_X7_save.2.1 62 = .ok (.getfield 105, 3) := by decide +kernel
theorem dX7_save_65 : decode mi_X7_save.2.1 65 = .ok (.imul, 1) := by decide +kernel
theorem dX7_save_66 : decode mi_X7_save.2.1 66 = .ok (.iload_n 1, 1) := by decide +kernel
theorem dX7_save_67 : decode mi_X7_save.2.1 67 = .ok (.iadd, 1) := by decide +kernel
theorem dX7_save_68 : decode mi_X7_save.2.1 68 = .ok (.aload_n 0, 1) := by decide +kernel
theorem dX7_save_69 : decode mi_X7_save.2.1 69 = .ok (.getfield 7, 3) := by decide +kernel
theorem dX7_save_72 : decode mi_X7_save.2.1 72 = .ok (.iload_n 1, 1) := by decide +kernel
theorem dX7_save_73 : decode mi_X7_save.2.1 73 = .ok (.iaload, 1) := by decide +kernel
theorem dX7_save_74 : decode mi_X7_save.2.1 74 = .ok (.iastore, 1) := by decide +kernel
theorem dX7_save_75 : decode mi_X7_save.2.1 75 = .ok (.iinc 1 1, 3) := by decide +kernel
theorem dX7_save_78 : decode mi_X7_save.2.1 78 = .ok (.goto (-29), 3) := by decide +kernel
theorem dX7_save_81 : decode mi_X7_save.2.1 81 = .ok (.aload_n 0, 1) := by decide +kernel
theorem dX7_save_82 : decode mi_X7_save.2.1 82 = .ok (.dup, 1) := by decide +kernel
theorem dX7_save_83 : decode mi_X7_save.2.1 83 = .ok (.getfield 105, 3) := by decide +kernel
theorem dX7_save_86 : decode mi_X7_save.2.1 86 = .ok (.iconst 1, 1) := by decide +kernel
theorem dX7_save_87 : decode mi_X7_save.2.1 87 = .ok (.iadd, 1) := by decide +kernel
theorem dX7_save_88 : decode mi_X7_save.2.1 88 = .ok (.putfield 105, 3) := by decide +kernel
theorem dX7_save_91 : decode mi_X7_save.2.1 91 = .ok (.return_, 1) := by decide +kernel
theorem dX7_undo_0 : decode mi_X7_undo.2.1 0 = .ok (.aload_n 0, 1) := by decide +kernel
theorem dX7_undo_1 : decode mi_X7_undo.2.1 1 = .ok (.getfield 105, 3) := by decide +kernel
theorem dX7_undo_4 : decode mi_X7_undo.2.1 4 = .ok (.ifCond .ne 6, 3) := by decide +kernel
theorem dX7_undo_7 : decode mi_X7_undo.2.1 7 = .ok (.bipush (-3), 2) := by decide +kernel
theorem dX7_undo_9 : decode mi_X7_undo.2.1 9 = .ok (.ireturn, 1) := by decide +kernel
theorem dX7_undo_10 : decode mi_X7_undo.2.1 10 = .ok (.aload_n 0, 1) := by decide +kernel
theorem dX7_undo_11 : decode mi_X7_undo.2.1 11 = .ok (.dup, 1) := by decide +kernel
theorem dX7_undo_12 : decode mi_X7_undo.2.1 12 = .ok (.getfield 105, 3) := by decide +kernel
theorem dX7_undo_15 : decode mi_X7_undo.2.1 15 = .ok (.iconst 1, 1) := by decide +kernel
theorem dX7_undo_16 : decode mi_X7_undo.2.1 16 = .ok (.isub, 1) := by decide +kernel
theorem dX7_undo_17 : decode mi_X7_undo.2.1 17 = .ok (.putfield 105, 3) := by decide +kernel
theorem dX7_undo_20 : decode mi_X7_undo.2.1 20 = .ok (.iconst 0, 1) := by decide +kernel
theorem dX7_undo_21 : decode mi_X7_undo.2.1 21 = .ok (.istore_n 1, 1) := by decide +kernel
theorem dX7_undo_22 : decode mi_X7_undo.2.1 22 = .ok (.iload_n 1, 1) := by decide +kernel
theorem dX7_undo_23 : decode mi_X7_undo.2.1 23 = .ok (.bipush 7, 2) := by decide +kernel
theorem dX7_undo_25 : decode mi_X7_undo.2.1 25 = .ok (.if_icmp .ge 29, 3) := by decide +kernel
theorem dX7_undo_28 : decode mi_X7_undo.2.1 28 = .ok (.aload_n 0, 1) := by decide +kernel
theorem dX7_undo_29 : decode mi_X7_undo.2.1 29 = .ok (.getfield 7, 3) := by decide +kernel
theorem dX7_undo_32 : decode mi_X7_undo.2.1 32 = .ok (.iload_n 1, 1) := by decide +kernel
theorem dX7_undo_33 : decode mi_X7_undo.2.1 33 = .ok (.aload_n 0, 1) := by decide +kernel
theorem dX7_undo_34 : decode mi_X7_undo.2.1 34 = .ok (.getfield 13, 3) := by decide +kernel
theorem dX7_undo_37 : decode mi_X7_undo.2.1 37 = .ok (.bipush 7, 2) := by decide +kernel
theorem dX7_undo_39 : decode mi_X7_undo.2.1 39 = .ok (.aload_n 0, 1) := by decide +kernel
theorem dX7_undo_40 : decode mi_X7_undo.2.1 40 = .ok (.getfield 105, 3) := by decide +kernel
theorem dX7_undo_43 : decode mi_X7_undo.2.1 43 = .ok (.imul, 1) := by decide +kernel
theorem dX7_undo_44 : decode mi_X7_undo.2.1 44 = .ok (.iload_n 1, 1) := by decide +kernel
theorem dX7_undo_45 : decode mi_X7_undo.2.1 45 = .ok (.iadd, 1) := by decide +kernel
theorem dX7_undo_46 : decode mi_X7_undo.2.1 46 = .ok (.iaload, 1) := by decide +kernel
theorem dX7_undo_47 : decode mi_X7_undo.2.1 47 = .ok (.iastore, 1) := by decide +kernel
theorem dX7_undo_48 : decode mi_X7_undo.2.1 48 = .ok (.iinc 1 1, 3) := by decide +kernel
theorem dX7_undo_51 : decode mi_X7_undo.2.1 51 = .ok (.goto (-29), 3) := by decide +kernel
theorem dX7_undo_54 : decode mi_X7_undo.2.1 54 = .ok (.aload_n 0, 1) := by decide +kernel
theorem dX7_undo_55 : decode mi_X7_undo.2.1 55 = .ok (.invokevirtual 29, 3) := by decide +kernel
theorem dX7_undo_58 : decode mi_X7_undo.2.1 58 = .ok (.aload_n 0, 1) := by decide +kernel
theorem dX7_undo_59 : decode mi_X7_undo.2.1 59 = .ok (.getfield 105, 3) := by decide +kernel
theorem dX7_undo_62 : decode mi_X7_undo.2.1 62 = .ok (.ireturn, 1) := by decide +kernel
theorem dX7_setLattice_0 : decode mi_X7_setLattice.2.1 0 = .ok (.iload_n 1, 1) := by decide +kernel
theorem dX7_setLattice_1 : decode mi_X7_setLattice.2.1 1 = .ok (.iconst 0, 1) := by decide +kernel
theorem dX7_setLattice_2 : decode mi_X7_setLattice.2.1 2 = .ok (.iconst 1, 1) := by decide +kernel
theorem dX7_setLattice_3 : decode mi_X7_setLattice.2.1 3 = .ok (.invokestatic 78, 3) := by decide +kernel
theorem dX7_setLattice_6 : decode mi_X7_setLattice.2.1 6 = .ok (.ifCond .eq 12, 3) := by decide +kernel
theorem dX7_setLattice_9 : decode mi_X7_setLattice.2.1 9 = .ok (.iload_n 2, 1) := by decide +kernel
theorem dX7_setLattice_10 : decode mi_X7_setLattice.2.1 10 = .ok (.iconst 1, 1) := by decide +kernel
theorem dX7_setLattice_11 : decode mi_X7_setLattice.2.1 11 = .ok (.iconst 5, 1) := by decide +kernel
theorem dX7_setLattice_12 : decode mi_X7_setLattice.2.1 12 = .ok (.invokestatic 78, 3) := by decide +kernel
theorem dX7_setLattice_15 : decode mi_X7_setLattice.2.1 15 = .ok (.ifCond .ne 5, 3) := by decide +kernel
theorem dX7_setLattice_18 : decode mi_X7_setLattice.2.1 18 = .ok (.iconst (-1), 1) := by decide +kernel
theorem dX7_setLattice_19 : decode mi_X7_setLattice.2.1 19 = .ok (.ireturn, 1) := by decide +kernel
theorem dX7_setLattice_20 : decode mi_X7_setLattice.2.1 20 = .ok (.aload_n 0, 1) := by decide +kernel
theorem dX7_setLattice_21 : decode mi_X7_setLattice.2.1 21 = .ok (.invokevirtual 108, 3) := by decide +kernel
theorem dX7_setLattice_24 : decode mi_X7_setLattice.2.1 24 = .ok (.aload_n 0, 1) := by decide +kernel
theorem dX7_setLattice_25 : decode mi_X7_setLattice.2.1 25 = .ok (.getfield 7, 3) := by decide +kernel
theorem dX7_setLattice_28 : decode mi_X7_setLattice.2.1 28 = .ok (.iconst 1, 1) := by decide +kernel
theorem dX7_setLattice_29 : decode mi_X7_setLattice.2.1 29 = .ok (.iaload, 1) := by decide +kernel
theorem dX7_setLattice_30 : decode mi_X7_setLattice.2.1 30 = .ok (.istore_n 3, 1) := by decide +kernel
theorem dX7_setLattice_31 : decode mi_X7_setLattice.2.1 31 = .ok (.aload_n 0, 1) := by decide +kernel
theorem dX7_setLattice_32 : decode mi_X7_setLattice.2.1 32 = .ok (.getfield 7, 3) := by decide +kernel
theorem dX7_setLattice_35 : decode mi_X7_setLattice.2.1 35 = .ok (.iconst 0, 1) := by decide +kernel
theorem dX7_setLattice_36 : decode mi_X7_setLattice.2.1 36 = .ok (.iload_n 1, 1) := by decide +kernel
theorem dX7_setLattice_37 : decode mi_X7_setLattice.2.1 37 = .ok (.iastore, 1) := by decide +kernel
theorem dX7_setLattice_38 : decode mi_X7_setLattice.2.1 38 = .ok (.aload_n 0, 1) := by decide +kernel
theorem dX7_setLattice_39 : decode mi_X7_setLattice.2.1 39 = .ok (.getfield 7, 3) := by decide +kernel
theorem dX7_setLattice_42 : decode mi_X7_setLattice.2.1 42 = .ok (.iconst 1, 1) := by decide +kernel
theorem dX7_setLattice_43 : decode mi_X7_setLattice.2.1 43 = .ok (.iload_n 2, 1) := by decide +kernel
theorem dX7_setLattice_44 : decode mi_X7_setLattice.2.1 44 = .ok (.iastore, 1) := by decide +kernel
theorem dX7_setLattice_45 : decode mi_X7_setLattice.2.1 45 = .ok (.aload_n 0, 1) := by decide +kernel
theorem dX7_setLattice_46 : decode mi_X7_setLattice.2.1 46 = .ok (.getfield 7, 3) := by decide +kernel
theorem dX7_setLattice_49 : decode mi_X7_setLattice.2.1 49 = .ok (.iconst 2, 1) := by decide +kernel
theorem dX7_setLattice_50 : decode mi_X7_setLattice.2.1 50 = .ok (.iconst 0, 1) := by decide +kernel
theorem dX7_setLattice_51 : decode mi_X7_setLattice.2.1 51 = .ok (.iastore, 1) := by decide +kernel
theorem dX7_setLattice_52 : decode mi_X7_setLattice.2.1 52 = .ok (.aload_n 0, 1) := by decide +kernel
theorem dX7_setLattice_53 : decode mi_X7_setLattice.2.1 53 = .ok (.invokevirtual 29, 3) := by decide +kernel
theorem dX7_setLattice_56 : decode mi_X7_setLattice.2.1 56 = .ok (.iload_n 3, 1) := by decide +kernel
theorem dX7_setLattice_57 : decode mi_X7_setLattice.2.1 57 = .ok (.ireturn, 1) := by decide +kernel
theorem dX7_isMovement_0 : decode mi_X7_isMovement.2.1 0 = .ok (.iload_n 1, 1) := by decide +kernel
theorem dX7_isMovement_1 : decode mi_X7_isMovement.2.1 1 = .ok (.iconst 0, 1) := by decide +kernel
theorem dX7_isMovement_2 : decode mi_X7_isMovement.2.1 2 = .ok (.aload_n 0, 1) := by decide +kernel
theorem dX7_isMovement_3 : decode mi_X7_isMovement.2.1 3 = .ok (.getfield 36, 3) := by decide +kernel
theorem dX7_isMovement_6 : decode mi_X7_isMovement.2.1 6 = .ok (.iconst 1, 1) := by decide +kernel
theorem dX7_isMovement_7 : decode mi_X7_isMovement.2.1 7 = .ok (.isub, 1) := by decide +kernel
theorem dX7_isMovement_8 : decode mi_X7_isMovement.2.1 8 = .ok (.invokestatic 78, 3) := by decide +kernel
theorem dX7_isMovement_11 : decode mi_X7_isMovement.2.1 11 = .ok (.ifCond .eq 39, 3) := by decide +kernel
theorem dX7_isMovement_14 : decode mi_X7_isMovement.2.1 14 = .ok (.iload_n 2, 1) := by decide +kernel
theorem dX7_isMovement_15 : decode mi_X7_isMovement.2.1 15 = .ok (.iconst 0, 1) := by decide +kernel
theorem dX7_isMovement_16 : decode mi_X7_isMovement.2.1 16 = .ok (.aload_n 0, 1) := by decide +kernel
theorem dX7_isMovement_17 : decode mi_X7_isMovement.2.1 17 = .ok (.getfield 7, 3) := by decide +kernel
theorem dX7_isMovement_20 : decode mi_X7_isMovement.2.1 20 = .ok (.iconst 1, 1) := by decide +kernel
theorem dX7_isMovement_21 : decode mi_X7_isMovement.2.1 21 = .ok (.iaload, 1) := by decide +kernel
theorem dX7_isMovement_22 : decode mi_X7_isMovement.2.1 22 = .ok (.iconst 1, 1) := by decide +kernel
theorem dX7_isMovement_23 : decode mi_X7_isMovement.2.1 23 = .ok (.isub, 1) := by decide +kernel
theorem dX7_isMovement_24 : decode mi_X7_isMovement.2.1 24 = .ok (.invokestatic 78, 3) := by decide +kernel
theorem dX7_isMovement_27 : decode mi_X7_isMovement.2.1 27 = .ok (.ifCond .eq 23, 3) := by decide +kernel
theorem dX7_isMovement_30 : decode mi_X7_isMovement.2.1 30 = .ok (.iload_n 3, 1) := by decide +kernel
theorem dX7_isMovement_31 : decode mi_X7_isMovement.2.1 31 = .ok (.iconst 0, 1) := by decide +kernel
theorem dX7_isMovement_32 : decode mi_X7_isMovement.2.1 32 = .ok (.aload_n 0, 1) := by decide +kernel
theorem dX7_isMovement_33 : decode mi_X7_isMovement.2.1 33 = .ok (.getfield 7, 3) := by decide +kernel
theorem dX7_isMovement_36 : decode mi_X7_isMovement.2.1 36 = .ok (.iconst 1, 1) := by decide +kernel
theorem dX7_isMovement_37 : decode mi_X7_isMovement.2.1 37 = .ok (.iaload, 1) := by decide +kernel
theorem dX7_isMovement_38 : decode mi_X7_isMovement.2.1 38 = .ok (.iconst 1, 1) := by decide +kernel
theorem dX7_isMovement_39 : decode mi_X7_isMovement.2.1 39 = .ok (.isub, 1) := by decide +kernel
theorem dX7_isMovement_40 : decode mi_X7_isMovement.2.1 40 = .ok (.invokestatic 78, 3) := by decide +kernel
theorem dX7_isMovement_43 : decode mi_X7_isMovement.2.1 43 = .ok (.ifCond .eq 7, 3) := by decide +kernel
theorem dX7_isMovement_46 : decode mi_X7_isMovement.2.1 46 = .ok (.iconst 1, 1) := by decide +kernel
theorem dX7_isMovement_47 : decode mi_X7_isMovement.2.1 47 = .ok (.goto 4, 3) := by decide +kernel
theorem dX7_isMovement_50 : decode mi_X7_isMovement.2.1 50 = .ok (.iconst 0, 1) := by decide +kernel
theorem dX7_isMovement_51 : decode mi_X7_isMovement.2.1 51 = .ok (.ireturn, 1) := by decide +kernel
theorem dX7_isGenerator_0 : decode mi_X7_isGenerator.2.1 0 = .ok (.iload_n 1, 1) := by decide +kernel
theorem dX7_isGenerator_1 : decode mi_X7_isGenerator.2.1 1 = .ok (.iconst 0, 1) := by decide +kernel
theorem dX7_isGenerator_2 : decode mi_X7_isGenerator.2.1 2 = .ok (.aload_n 0, 1) := by decide +kernel
theorem dX7_isGenerator_3 : decode mi_X7_isGenerator.2.1 3 = .ok (.getfield 7, 3) := by decide +kernel
theorem dX7_isGenerator_6 : decode mi_X7_isGenerator.2.1 6 = .ok (.iconst 2, 1) := by decide +kernel
theorem dX7_isGenerator_7 : decode mi_X7_isGenerator.2.1 7 = .ok (.iaload, 1) := by decide +kernel
theorem dX7_isGenerator_8 : decode mi_X7_isGenerator.2.1 8 = .ok (.iconst 1, 1) := by decide +kernel
theorem dX7_isGenerator_9 : decode mi_X7_isGenerator.2.1 9 = .ok (.isub, 1) := by decide +kernel
theorem dX7_isGenerator_10 : decode mi_X7_isGenerator.2.1 10 = .ok (.invokestatic 78, 3) := by decide +kernel
theorem dX7_isGenerator_13 : decode mi_X7_isGenerator.2.1 13 = .ok (.ireturn, 1) := by decide +kernel
theorem dX7_addGenerator_0 : decode mi_X7_addGenerator.2.1 0 = .ok (.aload_n 0, 1) := by decide +kernel
theorem dX7_addGenerator_1 : decode mi_X7_addGenerator.2.1 1 = .ok (.iload_n 1, 1) := by decide +kernel
theorem dX7_addGenerator_2 : decode mi_X7_addGenerator.2.1 2 = .ok (.iload_n 2, 1) := by decide +kernel
theorem dX7_addGenerator_3 : decode mi_X7_addGenerator.2.1 3 = .ok (.iload_n 3, 1) := by decide +kernel
theorem dX7_addGenerator_4 : decode mi_X7_addGenerator.2.1 4 = .ok (.invokevirtual 111, 3) := by decide +kernel
theorem dX7_addGenerator_7 : decode mi_X7_addGenerator.2.1 7 = .ok (.ifCond .ne 5, 3) := by decide +kernel
theorem dX7_addGenerator_10 : decode mi_X7_addGenerator.2.1 10 = .ok (.iconst (-1), 1) := by decide +kernel
theorem dX7_addGenerator_11 : decode mi_X7_addGenerator.2.1 11 = .ok (.ireturn, 1) := by decide +kernel
theorem dX7_addGenerator_12 : decode mi_X7_addGenerator.2.1 12 = .ok (.aload_n 0, 1) := by decide +kernel
theorem dX7_addGenerator_13 : decode mi_X7_addGenerator.2.1 13 = .ok (.getfield 7, 3) := by decide +kernel
theorem dX7_addGenerator_16 : decode mi_X7_addGenerator.2.1 16 = .ok (.iconst 2, 1) := by decide +kernel
theorem dX7_addGenerator_17 : decode mi_X7_addGenerator.2.1 17 = .ok (.iaload, 1) := by decide +kernel
theorem dX7_addGenerator_18 : decode mi_X7_addGenerator.2.1 18 = .ok (.iconst 4, 1) := by decide +kernel
theorem dX7_addGenerator_19 : decode mi_X7_addGenerator.2.1 19 = .ok (.if_icmp .ne 6, 3) := by decide +kernel
theorem dX7_addGenerator_22 : decode mi_X7_addGenerator.2.1 22 = .ok (.bipush (-2), 2) := by decide +kernel
theorem dX7_addGenerator_24 : decode mi_X7_addGenerator.2.1 24 = .ok (.ireturn, 1) := by decide +kernel
theorem dX7_addGenerator_25 : decode mi_X7_addGenerator.2.1 25 = .ok (.aload_n 0, 1) := by decide +kernel
theorem dX7_addGenerator_26 : decode mi_X7_addGenerator.2.1 26 = .ok (.invokevirtual 108, 3) := by decide +kernel
theorem dX7_addGenerator_29 : decode mi_X7_addGenerator.2.1 29 = .ok (.aload_n 0, 1) := by decide +kernel
theorem dX7_addGenerator_30 : decode mi_X7_addGenerator.2.1 30 = .ok (.getfield 7, 3) := by decide +kernel
theorem dX7_addGenerator_33 : decode mi_X7_addGenerator.2.1 33 = .ok (.iconst 3, 1) := by decide +kernel
theorem dX7_addGenerator_34 : decode mi_X7_addGenerator.2.1 34 = .ok (.aload_n 0, 1) := by decide +kernel
theorem dX7_addGenerator_35 : decode mi_X7_addGenerator.2.1 35 = .ok (.getfield 7, 3) := by decide +kernel
theorem dX7_addGenerator_38 : decode mi_X7_addGenerator.2.1 38 = .ok (.iconst 2, 1) := by decide +kernel
theorem dX7_addGenerator_39 : decode mi_X7_addGenerator.2.1 39 = .ok (.iaload, 1) := by decide +kernel
theorem dX7_addGenerator_40 : decode mi_X7_addGenerator.2.1 40 = .ok (.iadd, 1) := by decide +kernel
theorem dX7_addGenerator_41 : decode mi_X7_addGenerator.2.1 41 = .ok (.aload_n 0, 1) := by decide +kernel
theorem dX7_addGenerator_42 : decode mi_X7_addGenerator.2.1 42 = .ok (.iload_n 1, 1) := by decide +kernel
theorem dX7_addGenerator_43 : decode mi_X7_addGenerator.2.1 43 = .ok (.iload_n 2, 1) := by decide +kernel
theorem dX7_addGenerator_44 : decode mi_X7_addGenerator.2.1 44 = .ok (.iload_n 3, 1) := by decide +kernel
theorem dX7_addGenerator_45 : decode mi_X7_addGenerator.2.1 45 = .ok (.invokevirtual 75, 3) := by decide +kernel
theorem dX7_addGenerator_48 : decode mi_X7_addGenerator.2.1 48 = .ok (.iastore, 1) := by decide +kernel
theorem dX7_addGenerator_49 : decode mi_X7_addGenerator.2.1 49 = .ok (.aload_n 0, 1) := by decide +kernel
theorem dX7_addGenerator_50 : decode mi_X7_addGenerator.2.1 50 = .ok (.getfield 7, 3) := by decide +kernel
theorem dX7_addGenerator_53 : decode mi_X7_addGenerator.2.1 53 = .ok (.iconst 2, 1) := by decide +kernel
theorem dX7_addGenerator_54 : decode mi_X7_addGenerator.2.1 54 = .ok (.dup2, 1) := by decide +kernel
theorem dX7_addGenerator_55 : decode mi_X7_addGenerator.2.1 55 = .ok (.iaload, 1) := by decide +kernel
theorem dX7_addGenerator_56 : decode mi_X7_addGenerator.2.1 56 = .ok (.iconst 1, 1) := by decide +kernel
theorem dX7_addGenerator_57 : decode mi_X7_addGenerator.2.1 57 = .ok (.iadd, 1) := by decide +kernel
theorem dX7_addGenerator_58 : decode mi_X7_addGenerator.2.1 58 = .ok (.iastore, 1) := by decide +kernel
theorem dX7_addGenerator_59 : decode mi_X7_addGenerator.2.1 59 = .ok (.aload_n 0, 1) := by decide +kernel
theorem dX7_addGenerator_60 : decode mi_X7_addGenerator.2.1 60 = .ok (.invokevirtual 29, 3) := by decide +kernel
theorem dX7_addGenerator_63 : decode mi_X7_addGenerator.2.1 63 = .ok (.aload_n 0, 1) := by decide +kernel
theorem dX7_addGenerator_64 : decode mi_X7_addGenerator.2.1 64 = .ok (.getfield 92, 3) := by decide +kernel
theorem dX7_addGenerator_67 : decode mi_X7_addGenerator.2.1 67 = .ok (.ireturn, 1) := by decide +kernel
theorem dX7_removeGenerator_0 : decode mi_X7_removeGenerator.2.1 0 = .ok (.aload_n 0, 1) := by decide +kernel
theorem dX7_removeGenerator_1 : decode mi_X7_removeGenerator.2.1 1 = .ok (.iload_n 1, 1) := by decide +kernel
theorem dX7_removeGenerator_2 : decode mi_X7_removeGenerator.2.1 2 = .ok (.invokevirtual 114, 3) := by decide +kernel
theorem dX7_removeGenerator_5 : decode mi_X7_removeGenerator.2.1 5 = .ok (.ifCond .ne 5, 3) := by decide +kernel
theorem dX7_removeGenerator_8 : decode mi_X7_removeGenerator.2.1 8 = .ok (.iconst (-1), 1) := by decide +kernel
theorem dX7_removeGenerator_9 : decode mi_X7_removeGenerator.2.1 9 = .ok (.ireturn, 1) := by decide +kernel
theorem dX7_removeGenerator_10 : decode mi_X7_removeGenerator.2.1 10 = .ok (.aload_n 0, 1) := by decide +kernel
theorem dX7_removeGenerator_11 : decode mi_X7_removeGenerator.2.1 11 = .ok (.invokevirtual 108, 3) := by decide +kernel
theorem dX7_removeGenerator_14 : decode mi_X7_removeGenerator.2.1 14 = .ok (.aload_n 0, 1) := by decide +kernel
theorem dX7_removeGenerator_15 : decode mi_X7_removeGenerator.2.1 15 = .ok (.getfield 7, 3) := by decide +kernel
theorem dX7_removeGenerator_18 : decode mi_X7_removeGenerator.2.1 18 = .ok (.iconst 2, 1) := by decide +kernel
theorem dX7_removeGenerator_19 : decode mi_X7_removeGenerator.2.1 19 = .ok (.dup2, 1) := by decide +kernel
theorem dX7_removeGenerator_20 : decode mi_X7_removeGenerator.2.1 20 = .ok (.iaload, 1) := by decide +kernel
theorem dX7_removeGenerator_21 : decode mi_X7_removeGenerator.2.1 21 = .ok (.iconst 1, 1) := by decide +kernel
theorem dX7_removeGenerator_22 : decode mi_X7_removeGenerator.2.1 22 = .ok (.isub, 1) := by decide +kernel
theorem dX7_removeGenerator_23 : decode mi_X7_removeGenerator.2.1 23 = .ok (.iastore, 1) := by decide +kernel
theorem dX7_removeGenerator_24 : decode mi_X7_removeGenerator.2.1 24 = .ok (.iload_n 1, 1) := by decide +kernel
theorem dX7_removeGenerator_25 : decode mi_X7_removeGenerator.2.1 25 = .ok (.istore_n 2, 1) := by decide +kernel
theorem dX7_removeGenerator_26 : decode mi_X7_removeGenerator.2.1 26 = .ok (.iload_n 2, 1) := by decide +kernel
theorem dX7_removeGenerator_27 : decode mi_X7_removeGenerator.2.1 27 = .ok (.aload_n 0, 1) := by decide +kernel
theorem dX7_removeGenerator_28 : decode mi_X7_removeGenerator.2.1 28 = .ok (.getfield 7, 3) := by decide +kernel
theorem dX7_removeGenerator_31 : decode mi_X7_removeGenerator.2.1 31 = .ok (.iconst 2, 1) := by decide +kernel
theorem dX7_removeGenerator_32 : decode mi_X7_removeGenerator.2.1 32 = .ok (.iaload, 1) := by decide +kernel
theorem dX7_removeGenerator_33 : decode mi_X7_removeGenerator.2.1 33 = .ok (.if_icmp .ge 27, 3) := by decide +kernel
theorem dX7_removeGenerator_36 : decode mi_X7_removeGenerator.2.1 36 = .ok (.aload_n 0, 1) := by decide +kernel
theorem dX7_removeGenerator_37 : decode mi_X7_removeGenerator.2.1 37 = .ok (.getfield 7, 3) := by decide +kernel
theorem dX7_removeGenerator_40 : decode mi_X7_removeGenerator.2.1 40 = .ok (.iconst 3, 1) := by decide +kernel
theorem dX7_removeGenerator_41 : decode mi_X7_removeGenerator.2.1 41 = .ok (.iload_n 2, 1) := by decide +kernel
theorem dX7_removeGenerator_42 : decode mi_X7_removeGenerator.2.1 42 = .ok (.iadd, 1) := by decide +kernel
theorem dX7_removeGenerator_43 : decode mi_X7_removeGenerator.2.1 43 = .ok (.aload_n 0, 1) := by decide +kernel
theorem dX7_removeGenerator_44 : decode mi_X7_removeGenerator.2.1 44 = .ok (.getfield 7, 3) := by decide +kernel
theorem dX7_removeGenerator_47 : decode mi_X7_removeGenerator.2.1 47 = .ok (.iconst 3, 1) := by decide +kernel
theorem dX7_removeGenerator_48 : decode mi_X7_removeGenerator.2.1 48 = .ok (.iload_n 2, 1) := by decide +kernel
theorem dX7_removeGenerator_49 : decode mi_X7_removeGenerator.2.1 49 = .ok (.iadd, 1) := by decide +kernel
theorem dX7_removeGenerator_50 : decode mi_X7_removeGenerator.2.1 50 = .ok (.iconst 1, 1) := by decide +kernel
theorem dX7_removeGenerator_51 : decode mi_X7_removeGenerator.2.1 51 = .ok (.iadd, 1) := by decide +kernel
theorem dX7_removeGenerator_52 : decode mi_X7_removeGenerator.2.1 52 = .ok (.iaload, 1) := by decide +kernel
theorem dX7_removeGenerator_53 : decode mi_X7_removeGenerator.2.1 53 = .ok (.iastore, 1) := by decide +kernel
theorem dX7_removeGenerator_54 : decode mi_X7_removeGenerator.2.1 54 = .ok (.iinc 2 1, 3) := by decide +kernel
theorem dX7_removeGenerator_57 : decode mi_X7_removeGenerator.2.1 57 = .ok (.goto (-31), 3) := by decide +kernel
theorem dX7_removeGenerator_60 : decode mi_X7_removeGenerator.2.1 60 = .ok (.aload_n 0, 1) := by decide +kernel
theorem dX7_removeGenerator_61 : decode mi_X7_removeGenerator.2.1 61 = .ok (.invokevirtual 29, 3) := by decide +kernel
theorem dX7_removeGenerator_64 : decode mi_X7_removeGenerator.2.1 64 = .ok (.aload_n 0, 1) := by decide +kernel
theorem dX7_removeGenerator_65 : decode mi_X7_removeGenerator.2.1 65 = .ok (.getfield 92, 3) := by decide +kernel
theorem dX7_removeGenerator_68 : decode mi_X7_removeGenerator.2.1 68 = .ok (.ireturn, 1) := by decide +kernel
theorem dX7_setGenerator_0 : decode mi_X7_setGenerator.2.1 0 = .ok (.aload_n 0, 1) := by decide +kernel
theorem dX7_setGenerator_1 : decode mi_X7_setGenerator.2.1 1 = .ok (.iload_n 1, 1) := by decide +kernel
theorem dX7_setGenerator_2 : decode mi_X7_setGenerator.2.1 2 = .ok (.invokevirtual 114, 3) := by decide +kernel
theorem dX7_setGenerator_5 : decode mi_X7_setGenerator.2.1 5 = .ok (.ifCond .eq 14, 3) := by decide +kernel
theorem dX7_setGenerator_8 : decode mi_X7_setGenerator.2.1 8 = .ok (.aload_n 0, 1) := by decide +kernel
theorem dX7_setGenerator_9 : decode mi_X7_setGenerator.2.1 9 = .ok (.iload_n 2, 1) := by decide +kernel
theorem dX7_setGenerator_10 : decode mi_X7_setGenerator.2.1 10 = .ok (.iload_n 3, 1) := by decide +kernel
theorem dX7_setGenerator_11 : decode mi_X7_setGenerator.2.1 11 = .ok (.iload 4, 2) := by decide +kernel
theorem dX7_setGenerator_13 : decode mi_X7_setGenerator.2.1 13 = .ok (.invokevirtual 111, 3) := by decide +kernel
theorem dX7_setGenerator_16 : decode mi_X7_setGenerator.2.1 16 = .ok (.ifCond .ne 5, 3) := by decide +kernel
theorem dX7_setGenerator_19 : decode mi_X7_setGenerator.2.1 19 = .ok (.iconst (-1), 1) := by decide +kernel
theorem dX7_setGenerator_20 : decode mi_X7_setGenerator.2.1 20 = .ok (.ireturn, 1) := by decide +kernel
theorem dX7_setGenerator_21 : decode mi_X7_setGenerator.2.1 21 = .ok (.aload_n 0, 1) := by decide +kernel
theorem dX7_setGenerator_22 : decode mi_X7_setGenerator.2.1 22 = .ok (.invokevirtual 108, 3) := by decide +kernel
theorem dX7_setGenerator_25 : decode mi_X7_setGenerator.2.1 25 = .ok (.aload_n 0, 1) := by decide +kernel
theorem dX7_setGenerator_26 : decode mi_X7_setGenerator.2.1 26 = .ok (.getfield 7, 3) := by decide +kernel
theorem dX7_setGenerator_29 : decode mi_X7_setGenerator.2.1 29 = .ok (.iconst 3, 1) := by decide +kernel
theorem dX7_setGenerator_30 : decode mi_X7_setGenerator.2.1 30 = .ok (.iload_n 1, 1) := by decide +kernel
theorem dX7_setGenerator_31 : decode mi_X7_setGenerator.2.1 31 = .ok (.iadd, 1) := by decide +kernel
theorem dX7_setGenerator_32 : decode mi_X7_setGenerator.2.1 32 = .ok (.iaload, 1) := by decide +kernel
theorem dX7_setGenerator_33 : decode mi_X7_setGenerator.2.1 33 = .ok (.istore 5, 2) := by decide +kernel
theorem dX7_setGenerator_35 : decode mi_X7_setGenerator.2.1 35 = .ok (.aload_n 0, 1) := by decide +kernel
theorem dX7_setGenerator_36 : decode mi_X7_setGenerator.2.1 36 = .ok (.getfield 7, 3) := by decide +kernel
theorem dX7_setGenerator_39 : decode mi_X7_setGenerator.2.1 39 = .ok (.iconst 3, 1) := by decide +kernel
theorem dX7_setGenerator_40 : decode mi_X7_setGenerator.2.1 40 = .ok (.iload_n 1, 1) := by decide +kernel
theorem dX7_setGenerator_41 : decode mi_X7_setGenerator.2.1 41 = .ok (.iadd, 1) := by decide +kernel
theorem dX7_setGenerator_42 : decode mi_X7_setGenerator.2.1 42 = .ok (.aload_n 0, 1) := by decide +kernel
theorem dX7_setGenerator_43 : decode mi_X7_setGenerator.2.1 43 = .ok (.iload_n 2, 1) := by decide +kernel
theorem dX7_setGenerator_44 : decode mi_X7_setGenerator.2.1 44 = .ok (.iload_n 3, 1) := by decide +kernel
theorem dX7_setGenerator_45 : decode mi_X7_setGenerator.2.1 45 = .ok (.iload 4, 2) := by decide +kernel
theorem dX7_setGenerator_47 : decode mi_X7_setGenerator.2.1 47 = .ok (.invokevirtual 75, 3) := by decide +kernel
theorem dX7_setGenerator_50 : decode mi_X7_setGenerator.2.1 50 = .ok (.iastore, 1) := by decide +kernel
theorem dX7_setGenerator_51 : decode mi_X7_setGenerator.2.1 51 = .ok (.aload_n 0, 1) := by decide +kernel
theorem dX7_setGenerator_52 : decode mi_X7_setGenerator.2.1 52 = .ok (.invokevirtual 29, 3) := by decide +kernel
theorem dX7_setGenerator_55 : decode mi_X7_setGenerator.2.1 55 = .ok (.iload 5, 2) := by decide +kernel
theorem dX7_setGenerator_57 : decode mi_X7_setGenerator.2.1 57 = .ok (.ireturn, 1) := by decide +kernel
theorem dX7_generator_0 : decode mi_X7_generator.2.1 0 = .ok (.iload_n 1, 1) := by decide +kernel
theorem dX7_generator_1 : decode mi_X7_generator.2.1 1 = .ok (.ifCond .ge 7, 3) := by decide +kernel
theorem dX7_generator_4 : decode mi_X7_generator.2.1 4 = .ok (.iconst (-1), 1) := by decide +kernel
theorem dX7_generator_5 : decode mi_X7_generator.2.1 5 = .ok (.goto 26, 3) := by decide +kernel
theorem dX7_generator_8 : decode mi_X7_generator.2.1 8 = .ok (.iload_n 1, 1) := by decide +kernel
theorem dX7_generator_9 : decode mi_X7_generator.2.1 9 = .ok (.aload_n 0, 1) := by decide +kernel
theorem dX7_generator_10 : decode mi_X7_generator.2.1 10 = .ok (.getfield 7, 3) := by decide +kernel
theorem dX7_generator_13 : decode mi_X7_generator.2.1 13 = .ok (.iconst 2, 1) := by decide +kernel
theorem dX7_generator_14 : decode mi_X7_generator.2.1 14 = .ok (.iaload, 1) := by decide +kernel
theorem dX7_generator_15 : decode mi_X7_generator.2.1 15 = .ok (.if_icmp .ge 14, 3) := by decide +kernel
theorem dX7_generator_18 : decode mi_X7_generator.2.1 18 = .ok (.aload_n 0, 1) := by decide +kernel
theorem dX7_generator_19 : decode mi_X7_generator.2.1 19 = .ok (.getfield 7, 3) := by decide +kernel
theorem dX7_generator_22 : decode mi_X7_generator.2.1 22 = .ok (.iconst 3, 1) := by decide +kernel
theorem dX7_generator_23 : decode mi_X7_generator.2.1 23 = .ok (.iload_n 1, 1) := by decide +kernel
theorem dX7_generator_24 : decode mi_X7_generator.2.1 24 = .ok (.iadd, 1) := by decide +kernel
theorem dX7_generator_25 : decode mi_X7_generator.2.1 25 = .ok (.iaload, 1) := by decide +kernel
theorem dX7_generator_26 : decode mi_X7_generator.2.1 26 = .ok (.goto 5, 3) := by decide +kernel
theorem dX7_generator_29 : decode mi_X7_generator.2.1 29 = .ok (.bipush (-3), 2) := by decide +kernel
theorem dX7_generator_31 : decode mi_X7_generator.2.1 31 = .ok (.ireturn, 1) := by decide +kernel
theorem dX7_order_0 : decode mi_X7_order.2.1 0 = .ok (.aload_n 0, 1) := by decide +kernel
theorem dX7_order_1 : decode mi_X7_order.2.1 1 = .ok (.getfield 92, 3) := by decide +kernel
theorem dX7_order_4 : decode mi_X7_order.2.1 4 = .ok (.ireturn, 1) := by decide +kernel
theorem dX7_element_0 : decode mi_X7_element.2.1 0 = .ok (.iload_n 1, 1) := by decide +kernel
theorem dX7_element_1 : decode mi_X7_element.2.1 1 = .ok (.ifCond .ge 5, 3) := by decide +kernel
theorem dX7_element_4 : decode mi_X7_element.2.1 4 = .ok (.iconst (-1), 1) := by decide +kernel
theorem dX7_element_5 : decode mi_X7_element.2.1 5 = .ok (.ireturn, 1) := by decide +kernel
theorem dX7_element_6 : decode mi_X7_element.2.1 6 = .ok (.iload_n 1, 1) := by decide +kernel
theorem dX7_element_7 : decode mi_X7_element.2.1 7 = .ok (.istore_n 2, 1) := by decide +kernel
theorem dX7_element_8 : decode mi_X7_element.2.1 8 = .ok (.iconst 0, 1) := by decide +kernel
theorem dX7_element_9 : decode mi_X7_element.2.1 9 = .ok (.istore_n 3, 1) := by decide +kernel
theorem dX7_element_10 : decode mi_X7_element.2.1 10 = .ok (.iload_n 3, 1) := by decide +kernel
theorem dX7_element_11 : decode mi_X7_element.2.1 11 = .ok (.aload_n 0, 1) := by decide +kernel
theorem dX7_element_12 : decode mi_X7_element.2.1 12 = .ok (.getfield 36, 3) := by decide +kernel
theorem dX7_element_15 : decode mi_X7_element.2.1 15 = .ok (.aload_n 0, 1) := by decide +kernel
theorem dX7_element_16 : decode mi_X7_element.2.1 16 = .ok (.invokevirtual 51, 3) := by decide +kernel
theorem dX7_element_19 : decode mi_X7_element.2.1 19 = .ok (.imul, 1) := by decide +kernel
theorem dX7_element_20 : decode mi_X7_element.2.1 20 = .ok (.if_icmp .ge 27, 3) := by decide +kernel
theorem dX7_element_23 : decode mi_X7_element.2.1 23 = .ok (.aload_n 0, 1) := by decide +kernel
theorem dX7_element_24 : decode mi_X7_element.2.1 24 = .ok (.getfield 22, 3) := by decide +kernel
theorem dX7_element_27 : decode mi_X7_element.2.1 27 = .ok (.iload_n 3, 1) := by decide +kernel
theorem dX7_element_28 : decode mi_X7_element.2.1 28 = .ok (.baload, 1) := by decide +kernel
theorem dX7_element_29 : decode mi_X7_element.2.1 29 = .ok (.ifCond .eq 12, 3) := by decide +kernel
theorem dX7_element_32 : decode mi_X7_element.2.1 32 = .ok (.iload_n 2, 1) := by decide +kernel
theorem dX7_element_33 : decode mi_X7_element.2.1 33 = .ok (.ifCond .ne 5, 3) := by decide +kernel
theorem dX7_element_36 : decode mi_X7_element.2.1 36 = .ok (.iload_n 3, 1) := by decide +kernel
theorem dX7_element_37 : decode mi_X7_element.2.1 37 = .ok (.ireturn, 1) := by decide +kernel
theorem dX7_element_38 : decode mi_X7_element.2.1 38 = .ok (.iinc 2 (-1), 3) := by decide +kernel
theorem dX7_element_41 : decode mi_X7_element.2.1 41 = .ok (.iinc 3 1, 3) := by decide +kernel
theorem dX7_element_44 : decode mi_X7_element.2.1 44 = .ok (.goto (-34), 3) := by decide +kernel
theorem dX7_element_47 : decode mi_X7_element.2.1 47 = .ok (.bipush (-3), 2) := by decide +kernel
theorem dX7_element_49 : decode mi_X7_element.2.1 49 = .ok (.ireturn, 1) := by decide +kernel
theorem dX7_contains_0 : decode mi_X7_contains.2.1 0 = .ok (.aload_n 0, 1) := by decide +kernel
theorem dX7_contains_1 : decode mi_X7_contains.2.1 1 = .ok (.iload_n 1, 1) := by decide +kernel
theorem dX7_contains_2 : decode mi_X7_contains.2.1 2 = .ok (.invokevirtual 117, 3) := by decide +kernel
theorem dX7_contains_5 : decode mi_X7_contains.2.1 5 = .ok (.ifCond .ne 7, 3) := by decide +kernel
theorem dX7_contains_8 : decode mi_X7_contains.2.1 8 = .ok (.iconst (-1), 1) := by decide +kernel
theorem dX7_contains_9 : decode mi_X7_contains.2.1 9 = .ok (.goto 17, 3) := by decide +kernel
theorem dX7_contains_12 : decode mi_X7_contains.2.1 12 = .ok (.aload_n 0, 1) := by decide +kernel
theorem dX7_contains_13 : decode mi_X7_contains.2.1 13 = .ok (.getfield 22, 3) := by decide +kernel
theorem dX7_contains_16 : decode mi_X7_contains.2.1 16 = .ok (.iload_n 1, 1) := by decide +kernel
theorem dX7_contains_17 : decode mi_X7_contains.2.1 17 = .ok (.baload, 1) := by decide +kernel
theorem dX7_contains_18 : decode mi_X7_contains.2.1 18 = .ok (.ifCond .eq 7, 3) := by decide +kernel
theorem dX7_contains_21 : decode mi_X7_contains.2.1 21 = .ok (.iconst 1, 1) := by decide +kernel
theorem dX7_contains_22 : decode mi_X7_contains.2.1 22 = .ok (.goto 4, 3) := by decide +kernel
theorem dX7_contains_25 : decode mi_X7_contains.2.1 25 = .ok (.iconst 0, 1) := by decide +kernel
theorem dX7_contains_26 : decode mi_X7_contains.2.1 26 = .ok (.ireturn, 1) := by decide +kernel
theorem dX7_product_0 : decode mi_X7_product.2.1 0 = .ok (.aload_n 0, 1) := by decide +kernel
theorem dX7_product_1 : decode mi_X7_product.2.1 1 = .ok (.iload_n 1, 1) := by decide +kernel
theorem dX7_product_2 : decode mi_X7_product.2.1 2 = .ok (.invokevirtual 117, 3) := by decide +kernel
theorem dX7_product_5 : decode mi_X7_product.2.1 5 = .ok (.ifCond .eq 20, 3) := by decide +kernel
theorem dX7_product_8 : decode mi_X7_product.2.1 8 = .ok (.aload_n 0, 1) := by decide +kernel
theorem dX7_product_9 : decode mi_X7_product.2.1 9 = .ok (.iload_n 2, 1) := by decide +kernel
theorem dX7_product_10 : decode mi_X7_product.2.1 10 = .ok (.invokevirtual 117, 3) := by decide +kernel
theorem dX7_product_13 : decode mi_X7_product.2.1 13 = .ok (.ifCond .eq 12, 3) := by decide +kernel
theorem dX7_product_16 : decode mi_X7_product.2.1 16 = .ok (.aload_n 0, 1) := by decide +kernel
theorem dX7_product_17 : decode mi_X7_product.2.1 17 = .ok (.iload_n 1, 1) := by decide +kernel
theorem dX7_product_18 : decode mi_X7_product.2.1 18 = .ok (.iload_n 2, 1) := by decide +kernel
theorem dX7_product_19 : decode mi_X7_product.2.1 19 = .ok (.invokevirtual 102, 3) := by decide +kernel
theorem dX7_product_22 : decode mi_X7_product.2.1 22 = .ok (.goto 4, 3) := by decide +kernel
theorem dX7_product_25 : decode mi_X7_product.2.1 25 = .ok (.iconst (-1), 1) := by decide +kernel
theorem dX7_product_26 : decode mi_X7_product.2.1 26 = .ok (.ireturn, 1) := by decide +kernel
theorem dX7_orderOf_0 : decode mi_X7_orderOf.2.1 0 = .ok (.aload_n 0, 1) := by decide +kernel
theorem dX7_orderOf_1 : decode mi_X7_orderOf.2.1 1 = .ok (.iload_n 1, 1) := by decide +kernel
theorem dX7_orderOf_2 : decode mi_X7_orderOf.2.1 2 = .ok (.invokevirtual 117, 3) := by decide +kernel
theorem dX7_orderOf_5 : decode mi_X7_orderOf.2.1 5 = .ok (.ifCond .ne 5, 3) := by decide +kernel
theorem dX7_orderOf_8 : decode mi_X7_orderOf.2.1 8 = .ok (.iconst (-1), 1) := by decide +kernel
theorem dX7_orderOf_9 : decode mi_X7_orderOf.2.1 9 = .ok (.ireturn, 1) := by decide +kernel
theorem dX7_orderOf_10 : decode mi_X7_orderOf.2.1 10 = .ok (.iconst 1, 1) := by decide +kernel
theorem dX7_orderOf_11 : decode mi_X7_orderOf.2.1 11 = .ok (.istore_n 2, 1) := by decide +kernel
theorem dX7_orderOf_12 : decode mi_X7_orderOf.2.1 12 = .ok (.iload_n 1, 1) := by decide +kernel
theorem dX7_orderOf_13 : decode mi_X7_orderOf.2.1 13 = .ok (.istore_n 3, 1) := by decide +kernel
theorem dX7_orderOf_14 : decode mi_X7_orderOf.2.1 14 = .ok (.iload_n 3, 1) := by decide +kernel
theorem dX7_orderOf_15 : decode mi_X7_orderOf.2.1 15 = .ok (.ifCond .eq 16, 3) := by decide +kernel
theorem dX7_orderOf_18 : decode mi_X7_orderOf.2.1 18 = .ok (.aload_n 0, 1) := by decide +kernel
theorem dX7_orderOf_19 : decode mi_X7_orderOf.2.1 19 = .ok (.iload_n 3, 1) := by decide +kernel
theorem dX7_orderOf_20 : decode mi_X7_orderOf.2.1 20 = .ok (.iload_n 1, 1) := by decide +kernel
theorem dX7_orderOf_21 : decode mi_X7_orderOf.2.1 21 = .ok (.invokevirtual 102, 3) := by decide +kernel
theorem dX7_orderOf_24 : decode mi_X7_orderOf.2.1 24 = .ok (.istore_n 3, 1) := by decide +kernel
theorem dX7_orderOf_25 : decode mi_X7_orderOf.2.1 25 = .ok (.iinc 2 1, 3) := by decide +kernel
theorem dX7_orderOf_28 : decode mi_X7_orderOf.2.1 28 = .ok (.goto (-14), 3) := by decide +kernel
theorem dX7_orderOf_31 : decode mi_X7_orderOf.2.1 31 = .ok (.iload_n 2, 1) := by decide +kernel
theorem dX7_orderOf_32 : decode mi_X7_orderOf.2.1 32 = .ok (.ireturn, 1) := by decide +kernel
theorem dX7_kindOf_0 : decode mi_X7_kindOf.2.1 0 = .ok (.aload_n 0, 1) := by decide +kernel
theorem dX7_kindOf_1 : decode mi_X7_kindOf.2.1 1 = .ok (.iload_n 1, 1) := by decide +kernel
theorem dX7_kindOf_2 : decode mi_X7_kindOf.2.1 2 = .ok (.invokevirtual 117, 3) := by decide +kernel
theorem dX7_kindOf_5 : decode mi_X7_kindOf.2.1 5 = .ok (.ifCond .eq 11, 3) := by decide +kernel
theorem dX7_kindOf_8 : decode mi_X7_kindOf.2.1 8 = .ok (.aload_n 0, 1) := by decide +kernel
theorem dX7_kindOf_9 : decode mi_X7_kindOf.2.1 9 = .ok (.iload_n 1, 1) := by decide +kernel
theorem dX7_kindOf_10 : decode mi_X7_kindOf.2.1 10 = .ok (.invokevirtual 120, 3) := by decide +kernel
theorem dX7_kindOf_13 : decode mi_X7_kindOf.2.1 13 = .ok (.goto 4, 3) := by decide +kernel
theorem dX7_kindOf_16 : decode mi_X7_kindOf.2.1 16 = .ok (.iconst (-1), 1) := by decide +kernel
theorem dX7_kindOf_17 : decode mi_X7_kindOf.2.1 17 = .ok (.ireturn, 1) := by decide +kernel
theorem dX7_count_0 : decode mi_X7_count.2.1 0 = .ok (.iload_n 1, 1) := by decide +kernel
theorem dX7_count_1 : decode mi_X7_count.2.1 1 = .ok (.iconst 0, 1) := by decide +kernel
theorem dX7_count_2 : decode mi_X7_count.2.1 2 = .ok (.iconst 3, 1) := by decide +kernel
theorem dX7_count_3 : decode mi_X7_count.2.1 3 = .ok (.invokestatic 78, 3) := by decide +kernel
theorem dX7_count_6 : decode mi_X7_count.2.1 6 = .ok (.ifCond .ne 5, 3) := by decide +kernel
theorem dX7_count_9 : decode mi_X7_count.2.1 9 = .ok (.iconst (-1), 1) := by decide +kernel
theorem dX7_count_10 : decode mi_X7_count.2.1 10 = .ok (.ireturn, 1) := by decide +kernel
theorem dX7_count_11 : decode mi_X7_count.2.1 11 = .ok (.iconst 0, 1) := by decide +kernel
theorem dX7_count_12 : decode mi_X7_count.2.1 12 = .ok (.istore_n 2, 1) := by decide +kernel
theorem dX7_count_13 : decode mi_X7_count.2.1 13 = .ok (.iconst 0, 1) := by decide +kernel
theorem dX7_count_14 : decode mi_X7_count.2.1 14 = .ok (.istore_n 3, 1) := by decide +kernel
theorem dX7_count_15 : decode mi_X7_count.2.1 15 = .ok (.iload_n 3, 1) := by decide +kernel
theorem dX7_count_16 : decode mi_X7_count.2.1 16 = .ok (.aload_n 0, 1) := by decide +kernel
theorem dX7_count_17 : decode mi_X7_count.2.1 17 = .ok (.getfield 92, 3) := by decide +kernel
theorem dX7_count_20 : decode mi_X7_count.2.1 20 = .ok (.if_icmp .ge 31, 3) := by decide +kernel
theorem dX7_count_23 : decode mi_X7_count.2.1 23 = .ok (.iload_n 2, 1) := by decide +kernel
theorem dX7_count_24 : decode mi_X7_count.2.1 24 = .ok (.aload_n 0, 1) := by decide +kernel
theorem dX7_count_25 : decode mi_X7_count.2.1 25 = .ok (.aload_n 0, 1) := by decide +kernel
theorem dX7_count_26 : decode mi_X7_count.2.1 26 = .ok (.getfield 26, 3) := by decide +kernel
theorem dX7_count_29 : decode mi_X7_count.2.1 29 = .ok (.iload_n 3, 1) := by decide +kernel
theorem dX7_count_30 : decode mi_X7_count.2.1 30 = .ok (.iaload, 1) := by decide +kernel
theorem dX7_count_31 : decode mi_X7_count.2.1 31 = .ok (.invokevirtual 120, 3) := by decide +kernel
theorem dX7_count_34 : decode mi_X7_count.2.1 34 = .ok (.iload_n 1, 1) := by decide +kernel
theorem dX7_count_35 : decode mi_X7_count.2.1 35 = .ok (.if_icmp .ne 7, 3) := by decide +kernel
theorem dX7_count_38 : decode mi_X7_count.2.1 38 = .ok (.iconst 1, 1) := by decide +kernel
theorem dX7_count_39 : decode mi_X7_count.2.1 39 = .ok (.goto 4, 3) := by decide +kernel
theorem dX7_count_42 : decode mi_X7_count.2.1 42 = .ok (.iconst 0, 1) := by decide +kernel
theorem dX7_count_43 : decode mi_X7_count.2.1 43 = .ok (.iadd, 1) := by decide +kernel
theorem dX7_count_44 : decode mi_X7_count.2.1 44 = .ok (.istore_n 2, 1) := by decide +kernel
theorem dX7_count_45 : decode mi_X7_count.2.1 45 = .ok (.iinc 3 1, 3) := by decide +kernel
theorem dX7_count_48 : decode mi_X7_count.2.1 48 = .ok (.goto (-33), 3) := by decide +kernel
theorem dX7_count_51 : decode mi_X7_count.2.1 51 = .ok (.iload_n 2, 1) := by decide +kernel
theorem dX7_count_52 : decode mi_X7_count.2.1 52 = .ok (.ireturn, 1) := by decide +kernel
theorem dX7_commutingPairs_0 : decode mi_X7_commutingPairs.2.1 0 = .ok (.iconst 0, 1) := by decide +kernel
theorem dX7_commutingPairs_1 : decode mi_X7_commutingPairs.2.1 1 = .ok (.istore_n 1, 1) := by decide +kernel
theorem dX7_commutingPairs_2 : decode mi_X7_commutingPairs.2.1 2 = .ok (.iconst 0, 1) := by decide +kernel
theorem dX7_commutingPairs_3 : decode mi_X7_commutingPairs.2.1 3 = .ok (.istore_n 2, 1) := by decide +kernel
theorem dX7_commutingPairs_4 : decode mi_X7_commutingPairs.2.1 4 = .ok (.iload_n 2, 1) := by decide +kernel
theorem dX7_commutingPairs_5 : decode mi_X7_commutingPairs.2.1 5 = .ok (.aload_n 0, 1) := by decide +kernel
theorem dX7_commutingPairs_6 : decode mi_X7_commutingPairs.2.1 6 = .ok (.getfield 92, 3) := by decide +kernel
theorem dX7_commutingPairs_9 : decode mi_X7_commutingPairs.2.1 9 = .ok (.if_icmp .ge 68, 3) := by decide +kernel
theorem dX7_commutingPairs_12 : decode mi_X7_commutingPairs.2.1 12 = .ok (.iconst 0, 1) := by decide +kernel
theorem dX7_commutingPairs_13 : decode mi_X7_commutingPairs.2.1 13 = .ok (.istore_n 3, 1) := by decide +kernel
theorem dX7_commutingPairs_14 : decode mi_X7_commutingPairs.2.1 14 = .ok (.iload_n 3, 1) := by decide +kernel
theorem dX7_commutingPairs_15 : decode mi_X7_commutingPairs.2.1 15 = .ok (.aload_n 0, 1) := by decide +kernel
theorem dX7_commutingPairs_16 : decode mi_X7_commutingPairs.2.1 16 = .ok (.getfield 92, 3) := by decide +kernel
theorem dX7_commutingPairs_19 : decode mi_X7_commutingPairs.2.1 19 = .ok (.if_icmp .ge 52, 3) := by decide +kernel
theorem dX7_commutingPairs_22 : decode mi_X7_commutingPairs.2.1 22 = .ok (.iload_n 1, 1) := by decide +kernel
theorem dX7_commutingPairs_23 : decode mi_X7_commutingPairs.2.1 23 = .ok (.aload_n 0, 1) := by decide +kernel
theorem dX7_commutingPairs_24 : decode mi_X7_commutingPairs.2.1 24 = .ok (.aload_n 0, 1) := by decide +kernel
theorem dX7_commutingPairs_25 : decode mi_X7_commutingPairs.2.1 25 = .ok (.getfield 26, 3) := by decide +kernel
theorem dX7_commutingPairs_28 : decode mi_X7_commutingPairs.2.1 28 = .ok (.iload_n 2, 1) := by decide +kernel
theorem dX7_commutingPairs_29 : decode mi_X7_commutingPairs.2.1 29 = .ok (.iaload, 1) := by decide +kernel
theorem dX7_commutingPairs_30 : decode mi_X7_commutingPairs.2.1 30 = .ok (.aload_n 0, 1) := by decide +kernel
theorem dX7_commutingPairs_31 : decode mi_X7_commutingPairs.2.1 31 = .ok (.getfield 26, 3) := by decide +kernel
theorem dX7_commutingPairs_34 : decode mi_X7_commutingPairs.2.1 34 = .ok (.iload_n 3, 1) := by decide +kernel
theorem dX7_commutingPairs_35 : decode mi_X7_commutingPairs.2.1 35 = .ok (.iaload, 1) := by decide +kernel
theorem dX7_commutingPairs_36 : decode mi_X7_commutingPairs.2.1 36 = .ok (.invokevirtual 102, 3) := by decide +kernel
theorem dX7_commutingPairs_39 : decode mi_X7_commutingPairs.2.1 39 = .ok (.aload_n 0, 1) := by decide +kernel
theorem dX7_commutingPairs_40 : decode mi_X7_commutingPairs.2.1 40 = .ok (.aload_n 0, 1) := by decide +kernel
theorem dX7_commutingPairs_41 : decode mi_X7_commutingPairs.2.1 41 = .ok (.getfield 26, 3) := by decide +kernel
theorem dX7_commutingPairs_44 : decode mi_X7_commutingPairs.2.1 44 = .ok (.iload_n 3, 1) := by decide +kernel
theorem dX7_commutingPairs_45 : decode mi_X7_commutingPairs.2.1 45 = .ok (.iaload, 1) := by decide +kernel
theorem dX7_commutingPairs_46 : decode mi_X7_commutingPairs.2.1 46 = .ok (.aload_n 0, 1) := by decide +kernel
theorem dX7_commutingPairs_47 : decode mi_X7_commutingPairs.2.1 47 = .ok (.getfield 26, 3) := by decide +kernel
theorem dX7_commutingPairs_50 : decode mi_X7_commutingPairs.2.1 50 = .ok (.iload_n 2, 1) := by decide +kernel
theorem dX7_commutingPairs_51 : decode mi_X7_commutingPairs.2.1 51 = .ok (.iaload, 1) := by decide +kernel
theorem dX7_commutingPairs_52 : decode mi_X7_commutingPairs.2.1 52 = .ok (.invokevirtual 102, 3) := by decide +kernel
theorem dX7_commutingPairs_55 : decode mi_X7_commutingPairs.2.1 55 = .ok (.if_icmp .ne 7, 3) := by decide +kernel
theorem dX7_commutingPairs_58 : decode mi_X7_commutingPairs.2.1 58 = .ok (.iconst 1, 1) := by decide +kernel
theorem dX7_commutingPairs_59 : decode mi_X7_commutingPairs.2.1 59 = .ok (.goto 4, 3) := by decide +kernel
theorem dX7_commutingPairs_62 : decode mi_X7_commutingPairs.2.1 62 = .ok (.iconst 0, 1) := by decide +kernel
theorem dX7_commutingPairs_63 : decode mi_X7_commutingPairs.2.1 63 = .ok (.iadd, 1) := by decide +kernel
theorem dX7_commutingPairs_64 : decode mi_X7_commutingPairs.2.1 64 = .ok (.istore_n 1, 1) := by decide +kernel
theorem dX7_commutingPairs_65 : decode mi_X7_commutingPairs.2.1 65 = .ok (.iinc 3 1, 3) := by decide +kernel
theorem dX7_commutingPairs_68 : decode mi_X7_commutingPairs.2.1 68 = .ok (.goto (-54), 3) := by decide +kernel
theorem dX7_commutingPairs_71 : decode mi_X7_commutingPairs.2.1 71 = .ok (.iinc 2 1, 3) := by decide +kernel
theorem dX7_commutingPairs_74 : decode mi_X7_commutingPairs.2.1 74 = .ok (.goto (-70), 3) := by decide +kernel
theorem dX7_commutingPairs_77 : decode mi_X7_commutingPairs.2.1 77 = .ok (.iload_n 1, 1) := by decide +kernel
theorem dX7_commutingPairs_78 : decode mi_X7_commutingPairs.2.1 78 = .ok (.ireturn, 1) := by decide +kernel
theorem dX7_isAbelian_0 : decode mi_X7_isAbelian.2.1 0 = .ok (.aload_n 0, 1) := by decide +kernel
theorem dX7_isAbelian_1 : decode mi_X7_isAbelian.2.1 1 = .ok (.invokevirtual 123, 3) := by decide +kernel
theorem dX7_isAbelian_4 : decode mi_X7_isAbelian.2.1 4 = .ok (.aload_n 0, 1) := by decide +kernel
theorem dX7_isAbelian_5 : decode mi_X7_isAbelian.2.1 5 = .ok (.getfield 92, 3) := by decide +kernel
theorem dX7_isAbelian_8 : decode mi_X7_isAbelian.2.1 8 = .ok (.aload_n 0, 1) := by decide +kernel
theorem dX7_isAbelian_9 : decode mi_X7_isAbelian.2.1 9 = .ok (.getfield 92, 3) := by decide +kernel
theorem dX7_isAbelian_12 : decode mi_X7_isAbelian.2.1 12 = .ok (.imul, 1) := by decide +kernel
theorem dX7_isAbelian_13 : decode mi_X7_isAbelian.2.1 13 = .ok (.if_icmp .ne 7, 3) := by decide +kernel
theorem dX7_isAbelian_16 : decode mi_X7_isAbelian.2.1 16 = .ok (.iconst 1, 1) := by decide +kernel
theorem dX7_isAbelian_17 : decode mi_X7_isAbelian.2.1 17 = .ok (.goto 4, 3) := by decide +kernel
theorem dX7_isAbelian_20 : decode mi_X7_isAbelian.2.1 20 = .ok (.iconst 0, 1) := by decide +kernel
theorem dX7_isAbelian_21 : decode mi_X7_isAbelian.2.1 21 = .ok (.ireturn, 1) := by decide +kernel
theorem dX7_conjugacyClasses_0 : decode mi_X7_conjugacyClasses.2.1 0 = .ok (.aload_n 0, 1) := by decide +kernel
theorem dX7_conjugacyClasses_1 : decode mi_X7_conjugacyClasses.2.1 1 = .ok (.invokevirtual 123, 3) := by decide +kernel
theorem dX7_conjugacyClasses_4 : decode mi_X7_conjugacyClasses.2.1 4 = .ok (.aload_n 0, 1) := by decide +kernel
theorem dX7_conjugacyClasses_5 : decode mi_X7_conjugacyClasses.2.1 5 = .ok (.getfield 92, 3) := by decide +kernel
theorem dX7_conjugacyClasses_8 : decode mi_X7_conjugacyClasses.2.1 8 = .ok (.idiv, 1) := by decide +kernel
theorem dX7_conjugacyClasses_9 : decode mi_X7_conjugacyClasses.2.1 9 = .ok (.ireturn, 1) := by decide +kernel
theorem dX7_partSet_0 : decode mi_X7_partSet.2.1 0 = .ok (.iconst 0, 1) := by decide +kernel
theorem dX7_partSet_1 : decode mi_X7_partSet.2.1 1 = .ok (.istore_n 2, 1) := by decide +kernel
theorem dX7_partSet_2 : decode mi_X7_partSet.2.1 2 = .ok (.iconst 0, 1) := by decide +kernel
theorem dX7_partSet_3 : decode mi_X7_partSet.2.1 3 = .ok (.istore_n 3, 1) := by decide +kernel
theorem dX7_partSet_4 : decode mi_X7_partSet.2.1 4 = .ok (.iload_n 3, 1) := by decide +kernel
theorem dX7_partSet_5 : decode mi_X7_partSet.2.1 5 = .ok (.aload_n 0, 1) := by decide +kernel
theorem dX7_partSet_6 : decode mi_X7_partSet.2.1 6 = .ok (.getfield 92, 3) := by decide +kernel
theorem dX7_partSet_9 : decode mi_X7_partSet.2.1 9 = .ok (.if_icmp .ge 58, 3) := by decide +kernel
theorem dX7_partSet_12 : decode mi_X7_partSet.2.1 12 = .ok (.iload_n 1, 1) := by decide +kernel
theorem dX7_partSet_13 : decode mi_X7_partSet.2.1 13 = .ok (.ifCond .eq 17, 3) := by decide +kernel
theorem dX7_partSet_16 : decode mi_X7_partSet.2.1 16 = .ok (.aload_n 0, 1) := by decide +kernel
theorem dX7_partSet_17 : decode mi_X7_partSet.2.1 17 = .ok (.aload_n 0, 1) := by decide +kernel
theorem dX7_partSet_18 : decode mi_X7_partSet.2.1 18 = .ok (.getfield 26, 3) := by decide +kernel
theorem dX7_partSet_21 : decode mi_X7_partSet.2.1 21 = .ok (.iload_n 3, 1) := by decide +kernel
theorem dX7_partSet_22 : decode mi_X7_partSet.2.1 22 = .ok (.iaload, 1) := by decide +kernel
theorem dX7_partSet_23 : decode mi_X7_partSet.2.1 23 = .ok (.invokevirtual 120, 3) := by decide +kernel
theorem dX7_partSet_26 : decode mi_X7_partSet.2.1 26 = .ok (.iconst 2, 1) := by decide +kernel
theorem dX7_partSet_27 : decode mi_X7_partSet.2.1 27 = .ok (.if_icmp .ne 7, 3) := by decide +kernel
theorem dX7_partSet_30 : decode mi_X7_partSet.2.1 30 = .ok (.iconst 1, 1) := by decide +kernel
theorem dX7_partSet_31 : decode mi_X7_partSet.2.1 31 = .ok (.goto 4, 3) := by decide +kernel
theorem dX7_partSet_34 : decode mi_X7_partSet.2.1 34 = .ok (.iconst 0, 1) := by decide +kernel
theorem dX7_partSet_35 : decode mi_X7_partSet.2.1 35 = .ok (.istore 4, 2) := by decide +kernel
theorem dX7_partSet_37 : decode mi_X7_partSet.2.1 37 = .ok (.iload_n 2, 1) := by decide +kernel
theorem dX7_partSet_38 : decode mi_X7_partSet.2.1 38 = .ok (.iload 4, 2) := by decide +kernel
theorem dX7_partSet_40 : decode mi_X7_partSet.2.1 40 = .ok (.ifCond .eq 18, 3) := by decide +kernel
theorem dX7_partSet_43 : decode mi_X7_partSet.2.1 43 = .ok (.iconst 1, 1) := by decide +kernel
theorem dX7_partSet_44 : decode mi_X7_partSet.2.1 44 = .ok (.aload_n 0, 1) := by decide +kernel
theorem dX7_partSet_45 : decode mi_X7_partSet.2.1 45 = .ok (.aload_n 0, 1) := by decide +kernel
theorem dX7_partSet_46 : decode mi_X7_partSet.2.1 46 = .ok (.getfield 26, 3) := by decide +kernel
theorem dX7_partSet_49 : decode mi_X7_partSet.2.1 49 = .ok (.iload_n 3, 1) := by decide +kernel
theorem dX7_partSet_50 : decode mi_X7_partSet.2.1 50 = .ok (.iaload, 1) := by decide +kernel
theorem dX7_partSet_51 : decode mi_X7_partSet.2.1 51 = .ok (.invokevirtual 59, 3) := by decide +kernel
theorem dX7_partSet_54 : decode mi_X7_partSet.2.1 54 = .ok (.ishl, 1) := by decide +kernel
theorem dX7_partSet_55 : decode mi_X7_partSet.2.1 55 = .ok (.goto 4, 3) := by decide +kernel
theorem dX7_partSet_58 : decode mi_X7_partSet.2.1 58 = .ok (.iconst 0, 1) := by decide +kernel
theorem dX7_partSet_59 : decode mi_X7_partSet.2.1 59 = .ok (.ior, 1) := by decide +kernel
theorem dX7_partSet_60 : decode mi_X7_partSet.2.1 60 = .ok (.istore_n 2, 1) := by decide +kernel
theorem dX7_partSet_61 : decode mi_X7_partSet.2.1 61 = .ok (.iinc 3 1, 3) := by decide +kernel
theorem dX7_partSet_64 : decode mi_X7_partSet.2.1 64 = .ok (.goto (-60), 3) := by decide +kernel
theorem dX7_partSet_67 : decode mi_X7_partSet.2.1 67 = .ok (.iload_n 2, 1) := by decide +kernel
theorem dX7_partSet_68 : decode mi_X7_partSet.2.1 68 = .ok (.ireturn, 1) := by decide +kernel
theorem dX7_ones_0 : decode mi_X7_ones.2.1 0 = .ok (.iconst 0, 1) := by decide +kernel
theorem dX7_ones_1 : decode mi_X7_ones.2.1 1 = .ok (.istore_n 1, 1) := by decide +kernel
theorem dX7_ones_2 : decode mi_X7_ones.2.1 2 = .ok (.iconst 0, 1) := by decide +kernel
theorem dX7_ones_3 : decode mi_X7_ones.2.1 3 = .ok (.istore_n 2, 1) := by decide +kernel
theorem dX7_ones_4 : decode mi_X7_ones.2.1 4 = .ok (.iload_n 2, 1) := by decide +kernel
theorem dX7_ones_5 : decode mi_X7_ones.2.1 5 = .ok (.bipush 12, 2) := by decide +kernel
theorem dX7_ones_7 : decode mi_X7_ones.2.1 7 = .ok (.if_icmp .ge 17, 3) := by decide +kernel
theorem dX7_ones_10 : decode mi_X7_ones.2.1 10 = .ok (.iload_n 1, 1) := by decide +kernel
theorem dX7_ones_11 : decode mi_X7_ones.2.1 11 = .ok (.iload_n 0, 1) := by decide +kernel
theorem dX7_ones_12 : decode mi_X7_ones.2.1 12 = .ok (.iload_n 2, 1) := by decide +kernel
theorem dX7_ones_13 : decode mi_X7_ones.2.1 13 = .ok (.ishr, 1) := by decide +kernel
theorem dX7_ones_14 : decode mi_X7_ones.2.1 14 = .ok (.iconst 1, 1) := by decide +kernel
theorem dX7_ones_15 : decode mi_X7_ones.2.1 15 = .ok (.iand, 1) := by decide +kernel
theorem dX7_ones_16 : decode mi_X7_ones.2.1 16 = .ok (.iadd, 1) := by decide +kernel
theorem dX7_ones_17 : decode mi_X7_ones.2.1 17 = .ok (.istore_n 1, 1) := by decide +kernel
theorem dX7_ones_18 : decode mi_X7_ones.2.1 18 = .ok (.iinc 2 1, 3) := by decide +kernel
theorem dX7_ones_21 : decode mi_X7_ones.2.1 21 = .ok (.goto (-17), 3) := by decide +kernel
theorem dX7_ones_24 : decode mi_X7_ones.2.1 24 = .ok (.iload_n 1, 1) := by decide +kernel
theorem dX7_ones_25 : decode mi_X7_ones.2.1 25 = .ok (.ireturn, 1) := by decide +kernel
theorem dX7_linearParts_0 : decode mi_X7_linearParts.2.1 0 = .ok (.aload_n 0, 1) := by decide +kernel
theorem dX7_linearParts_1 : decode mi_X7_linearParts.2.1 1 = .ok (.iconst 0, 1) := by decide +kernel
theorem dX7_linearParts_2 : decode mi_X7_linearParts.2.1 2 = .ok (.invokevirtual 126, 3) := by decide +kernel
theorem dX7_linearParts_5 : decode mi_X7_linearParts.2.1 5 = .ok (.invokestatic 130, 3) := by decide +kernel
theorem dX7_linearParts_8 : decode mi_X7_linearParts.2.1 8 = .ok (.ireturn, 1) := by decide +kernel
theorem dX7_greatestTurn_0 : decode mi_X7_greatestTurn.2.1 0 = .ok (.aload_n 0, 1) := by decide +kernel
theorem dX7_greatestTurn_1 : decode mi_X7_greatestTurn.2.1 1 = .ok (.iconst 0, 1) := by decide +kernel
theorem dX7_greatestTurn_2 : decode mi_X7_greatestTurn.2.1 2 = .ok (.invokevirtual 126, 3) := by decide +kernel
theorem dX7_greatestTurn_5 : decode mi_X7_greatestTurn.2.1 5 = .ok (.istore_n 1, 1) := by decide +kernel
theorem dX7_greatestTurn_6 : decode mi_X7_greatestTurn.2.1 6 = .ok (.iconst 1, 1) := by decide +kernel
theorem dX7_greatestTurn_7 : decode mi_X7_greatestTurn.2.1 7 = .ok (.istore_n 2, 1) := by decide +kernel
theorem dX7_greatestTurn_8 : decode mi_X7_greatestTurn.2.1 8 = .ok (.iconst 0, 1) := by decide +kernel
theorem dX7_greatestTurn_9 : decode mi_X7_greatestTurn.2.1 9 = .ok (.istore_n 3, 1) := by decide +kernel
theorem dX7_greatestTurn_10 : decode mi_X7_greatestTurn.2.1 10 = .ok (.iload_n 3, 1) := by decide +kernel
theorem dX7_greatestTurn_11 : decode mi_X7_greatestTurn.2.1 11 = .ok (.aload_n 0, 1) := by decide +kernel
theorem dX7_greatestTurn_12 : decode mi_X7_greatestTurn.2.1 12 = .ok (.getfield 36, 3) := by decide +kernel
theorem dX7_greatestTurn_15 : decode mi_X7_greatestTurn.2.1 15 = .ok (.iconst 2, 1) := by decide +kernel
theorem dX7_greatestTurn_16 : decode mi_X7_greatestTurn.2.1 16 = .ok (.idiv, 1) := by decide +kernel
theorem dX7_greatestTurn_17 : decode mi_X7_greatestTurn.2.1 17 = .ok (.if_icmp .ge 42, 3) := by decide +kernel
theorem dX7_greatestTurn_20 : decode mi_X7_greatestTurn.2.1 20 = .ok (.iload_n 1, 1) := by decide +kernel
theorem dX7_greatestTurn_21 : decode mi_X7_greatestTurn.2.1 21 = .ok (.iload_n 3, 1) := by decide +kernel
theorem dX7_greatestTurn_22 : decode mi_X7_greatestTurn.2.1 22 = .ok (.ishr, 1) := by decide +kernel
theorem dX7_greatestTurn_23 : decode mi_X7_greatestTurn.2.1 23 = .ok (.iconst 1, 1) := by decide +kernel
theorem dX7_greatestTurn_24 : decode mi_X7_greatestTurn.2.1 24 = .ok (.iand, 1) := by decide +kernel
theorem dX7_greatestTurn_25 : decode mi_X7_greatestTurn.2.1 25 = .ok (.iconst 1, 1) := by decide +kernel
theorem dX7_greatestTurn_26 : decode mi_X7_greatestTurn.2.1 26 = .ok (.if_icmp .ne 11, 3) := by decide +kernel
theorem dX7_greatestTurn_29 : decode mi_X7_greatestTurn.2.1 29 = .ok (.aload_n 0, 1) := by decide +kernel
theorem dX7_greatestTurn_30 : decode mi_X7_greatestTurn.2.1 30 = .ok (.iload_n 3, 1) := by decide +kernel
theorem dX7_greatestTurn_31 : decode mi_X7_greatestTurn.2.1 31 = .ok (.invokevirtual 133, 3) := by decide +kernel
theorem dX7_greatestTurn_34 : decode mi_X7_greatestTurn.2.1 34 = .ok (.goto 4, 3) := by decide +kernel
theorem dX7_greatestTurn_37 : decode mi_X7_greatestTurn.2.1 37 = .ok (.iconst 1, 1) := by decide +kernel
theorem dX7_greatestTurn_38 : decode mi_X7_greatestTurn.2.1 38 = .ok (.istore 4, 2) := by decide +kernel
theorem dX7_greatestTurn_40 : decode mi_X7_greatestTurn.2.1 40 = .ok (.iload 4, 2) := by decide +kernel
theorem dX7_greatestTurn_42 : decode mi_X7_greatestTurn.2.1 42 = .ok (.iload_n 2, 1) := by decide +kernel
theorem dX7_greatestTurn_43 : decode mi_X7_greatestTurn.2.1 43 = .ok (.if_icmp .le 8, 3) := by decide +kernel
theorem dX7_greatestTurn_46 : decode mi_X7_greatestTurn.2.1 46 = .ok (.iload 4, 2) := by decide +kernel
theorem dX7_greatestTurn_48 : decode mi_X7_greatestTurn.2.1 48 = .ok (.goto 4, 3) := by decide +kernel
theorem dX7_greatestTurn_51 : decode mi_X7_greatestTurn.2.1 51 = .ok (.iload_n 2, 1) := by decide +kernel
theorem dX7_greatestTurn_52 : decode mi_X7_greatestTurn.2.1 52 = .ok (.istore_n 2, 1) := by decide +kernel
theorem dX7_greatestTurn_53 : decode mi_X7_greatestTurn.2.1 53 = .ok (.iinc 3 1, 3) := by decide +kernel
theorem dX7_greatestTurn_56 : decode mi_X7_greatestTurn.2.1 56 = .ok (.goto (-46), 3) := by decide +kernel
theorem dX7_greatestTurn_59 : decode mi_X7_greatestTurn.2.1 59 = .ok (.iload_n 2, 1) := by decide +kernel
theorem dX7_greatestTurn_60 : decode mi_X7_greatestTurn.2.1 60 = .ok (.ireturn, 1) := by decide +kernel
theorem dX7_rotationOrder_0 : decode mi_X7_rotationOrder.2.1 0 = .ok (.aload_n 0, 1) := by decide +kernel
theorem dX7_rotationOrder_1 : decode mi_X7_rotationOrder.2.1 1 = .ok (.invokevirtual 136, 3) := by decide +kernel
theorem dX7_rotationOrder_4 : decode mi_X7_rotationOrder.2.1 4 = .ok (.ireturn, 1) := by decide +kernel
