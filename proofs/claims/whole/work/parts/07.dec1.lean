theorem dX1_fixesShortestVector_1 : decode mi_X1_fixesShortestVector.2.1 1 = .ok (.getfield 22, 3) := by decide +kernel
theorem dX1_fixesShortestVector_4 : decode mi_X1_fixesShortestVector.2.1 4 = .ok (.getfield 86, 3) := by decide +kernel
theorem dX1_fixesShortestVector_7 : decode mi_X1_fixesShortestVector.2.1 7 = .ok (.istore_n 1, 1) := by decide +kernel
theorem dX1_fixesShortestVector_8 : decode mi_X1_fixesShortestVector.2.1 8 = .ok (.aload_n 0, 1) := by decide +kernel
theorem dX1_fixesShortestVector_9 : decode mi_X1_fixesShortestVector.2.1 9 = .ok (.invokevirtual 133, 3) := by decide +kernel
theorem dX1_fixesShortestVector_12 : decode mi_X1_fixesShortestVector.2.1 12 = .ok (.istore_n 2, 1) := by decide +kernel
theorem dX1_fixesShortestVector_13 : decode mi_X1_fixesShortestVector.2.1 13 = .ok (.iload_n 1, 1) := by decide +kernel
theorem dX1_fixesShortestVector_14 : decode mi_X1_fixesShortestVector.2.1 14 = .ok (.ineg, 1) := by decide +kernel
theorem dX1_fixesShortestVector_15 : decode mi_X1_fixesShortestVector.2.1 15 = .ok (.istore_n 3, 1) := by decide +kernel
theorem dX1_fixesShortestVector_16 : decode mi_X1_fixesShortestVector.2.1 16 = .ok (.iload_n 3, 1) := by decide +kernel
theorem dX1_fixesShortestVector_17 : decode mi_X1_fixesShortestVector.2.1 17 = .ok (.iload_n 1, 1) := by decide +kernel
theorem dX1_fixesShortestVector_18 : decode mi_X1_fixesShortestVector.2.1 18 = .ok (.if_icmp .gt 60, 3) := by decide +kernel
theorem dX1_fixesShortestVector_21 : decode mi_X1_fixesShortestVector.2.1 21 = .ok (.iload_n 1, 1) := by decide +kernel
theorem dX1_fixesShortestVector_22 : decode mi_X1_fixesShortestVector.2.1 22 = .ok (.ineg, 1) := by decide +kernel
theorem dX1_fixesShortestVector_23 : decode mi_X1_fixesShortestVector.2.1 23 = .ok (.istore 4, 2) := by decide +kernel
theorem dX1_fixesShortestVector_25 : decode mi_X1_fixesShortestVector.2.1 25 = .ok (.iload 4, 2) := by decide +kernel
theorem dX1_fixesShortestVector_27 : decode mi_X1_fixesShortestVector.2.1 27 = .ok (.iload_n 1, 1) := by decide +kernel
theorem dX1_fixesShortestVector_28 : decode mi_X1_fixesShortestVector.2.1 28 = .ok (.if_icmp .gt 44, 3) := by decide +kernel
theorem dX1_fixesShortestVector_31 : decode mi_X1_fixesShortestVector.2.1 31 = .ok (.iload_n 3, 1) := by decide +kernel
theorem dX1_fixesShortestVector_32 : decode mi_X1_fixesShortestVector.2.1 32 = .ok (.iload 4, 2) := by decide +kernel
theorem dX1_fixesShortestVector_34 : decode mi_X1_fixesShortestVector.2.1 34 = .ok (.invokestatic 136, 3) := by decide +kernel
theorem dX1_fixesShortestVector_37 : decode mi_X1_fixesShortestVector.2.1 37 = .ok (.iload_n 2, 1) := by decide +kernel
theorem dX1_fixesShortestVector_38 : decode mi_X1_fixesShortestVector.2.1 38 = .ok (.if_icmp .ne 28, 3) := by decide +kernel
theorem dX1_fixesShortestVector_41 : decode mi_X1_fixesShortestVector.2.1 41 = .ok (.aload_n 0, 1) := by decide +kernel
theorem dX1_fixesShortestVector_42 : decode mi_X1_fixesShortestVector.2.1 42 = .ok (.getfield 26, 3) := by decide +kernel
theorem dX1_fixesShortestVector_45 : decode mi_X1_fixesShortestVector.2.1 45 = .ok (.iload_n 3, 1) := by decide +kernel
theorem dX1_fixesShortestVector_46 : decode mi_X1_fixesShortestVector.2.1 46 = .ok (.iload 4, 2) := by decide +kernel
theorem dX1_fixesShortestVector_48 : decode mi_X1_fixesShortestVector.2.1 48 = .ok (.invokevirtual 94, 3) := by decide +kernel
theorem dX1_fixesShortestVector_51 : decode mi_X1_fixesShortestVector.2.1 51 = .ok (.ifCond .eq 15, 3) := by decide +kernel
theorem dX1_fixesShortestVector_54 : decode mi_X1_fixesShortestVector.2.1 54 = .ok (.aload_n 0, 1) := by decide +kernel
theorem dX1_fixesShortestVector_55 : decode mi_X1_fixesShortestVector.2.1 55 = .ok (.iload_n 3, 1) := by decide +kernel
theorem dX1_fixesShortestVector_56 : decode mi_X1_fixesShortestVector.2.1 56 = .ok (.iload 4, 2) := by decide +kernel
theorem dX1_fixesShortestVector_58 : decode mi_X1_fixesShortestVector.2.1 58 = .ok (.invokevirtual 139, 3) := by decide +kernel
theorem dX1_fixesShortestVector_61 : decode mi_X1_fixesShortestVector.2.1 61 = .ok (.ifCond .eq 5, 3) := by decide +kernel
theorem dX1_fixesShortestVector_64 : decode mi_X1_fixesShortestVector.2.1 64 = .ok (.iconst 1, 1) := by decide +kernel
theorem dX1_fixesShortestVector_65 : decode mi_X1_fixesShortestVector.2.1 65 = .ok (.ireturn, 1) := by decide +kernel
theorem dX1_fixesShortestVector_66 : decode mi_X1_fixesShortestVector.2.1 66 = .ok (.iinc 4 1, 3) := by decide +kernel
theorem dX1_fixesShortestVector_69 : decode mi_X1_fixesShortestVector.2.1 69 = .ok (.goto (-44), 3) := by decide +kernel
theorem dX1_fixesShortestVector_72 : decode mi_X1_fixesShortestVector.2.1 72 = .ok (.iinc 3 1, 3) := by decide +kernel
theorem dX1_fixesShortestVector_75 : decode mi_X1_fixesShortestVector.2.1 75 = .ok (.goto (-59), 3) := by decide +kernel
theorem dX1_fixesShortestVector_78 : decode mi_X1_fixesShortestVector.2.1 78 = .ok (.iconst 0, 1) := by decide +kernel
theorem dX1_fixesShortestVector_79 : decode mi_X1_fixesShortestVector.2.1 79 = .ok (.ireturn, 1) := by decide +kernel
theorem dX1_leastSquaredLength_0 : decode mi_X1_leastSquaredLength.2.1 0 = .ok (.aload_n 0, 1) := by decide +kernel
theorem dX1_leastSquaredLength_1 : decode mi_X1_leastSquaredLength.2.1 1 = .ok (.getfield 22, 3) := by decide +kernel
theorem dX1_leastSquaredLength_4 : decode mi_X1_leastSquaredLength.2.1 4 = .ok (.getfield 86, 3) := by decide +kernel
theorem dX1_leastSquaredLength_7 : decode mi_X1_leastSquaredLength.2.1 7 = .ok (.istore_n 1, 1) := by decide +kernel
theorem dX1_leastSquaredLength_8 : decode mi_X1_leastSquaredLength.2.1 8 = .ok (.iload_n 1, 1) := by decide +kernel
theorem dX1_leastSquaredLength_9 : decode mi_X1_leastSquaredLength.2.1 9 = .ok (.iconst 0, 1) := by decide +kernel
theorem dX1_leastSquaredLength_10 : decode mi_X1_leastSquaredLength.2.1 10 = .ok (.invokestatic 136, 3) := by decide +kernel
theorem dX1_leastSquaredLength_13 : decode mi_X1_leastSquaredLength.2.1 13 = .ok (.istore_n 2, 1) := by decide +kernel
theorem dX1_leastSquaredLength_14 : decode mi_X1_leastSquaredLength.2.1 14 = .ok (.iload_n 1, 1) := by decide +kernel
theorem dX1_leastSquaredLength_15 : decode mi_X1_leastSquaredLength.2.1 15 = .ok (.ineg, 1) := by decide +kernel
theorem dX1_leastSquaredLength_16 : decode mi_X1_leastSquaredLength.2.1 16 = .ok (.istore_n 3, 1) := by decide +kernel
theorem dX1_leastSquaredLength_17 : decode mi_X1_leastSquaredLength.2.1 17 = .ok (.iload_n 3, 1) := by decide +kernel
theorem dX1_leastSquaredLength_18 : decode mi_X1_leastSquaredLength.2.1 18 = .ok (.iload_n 1, 1) := by decide +kernel
theorem dX1_leastSquaredLength_19 : decode mi_X1_leastSquaredLength.2.1 19 = .ok (.if_icmp .gt 60, 3) := by decide +kernel
theorem dX1_leastSquaredLength_22 : decode mi_X1_leastSquaredLength.2.1 22 = .ok (.iload_n 1, 1) := by decide +kernel
theorem dX1_leastSquaredLength_23 : decode mi_X1_leastSquaredLength.2.1 23 = .ok (.ineg, 1) := by decide +kernel
theorem dX1_leastSquaredLength_24 : decode mi_X1_leastSquaredLength.2.1 24 = .ok (.istore 4, 2) := by decide +kernel
theorem dX1_leastSquaredLength_26 : decode mi_X1_leastSquaredLength.2.1 26 = .ok (.iload 4, 2) := by decide +kernel
theorem dX1_leastSquaredLength_28 : decode mi_X1_leastSquaredLength.2.1 28 = .ok (.iload_n 1, 1) := by decide +kernel
theorem dX1_leastSquaredLength_29 : decode mi_X1_leastSquaredLength.2.1 29 = .ok (.if_icmp .gt 44, 3) := by decide +kernel
theorem dX1_leastSquaredLength_32 : decode mi_X1_leastSquaredLength.2.1 32 = .ok (.iload_n 3, 1) := by decide +kernel
theorem dX1_leastSquaredLength_33 : decode mi_X1_leastSquaredLength.2.1 33 = .ok (.iload 4, 2) := by decide +kernel
theorem dX1_leastSquaredLength_35 : decode mi_X1_leastSquaredLength.2.1 35 = .ok (.invokestatic 136, 3) := by decide +kernel
theorem dX1_leastSquaredLength_38 : decode mi_X1_leastSquaredLength.2.1 38 = .ok (.istore 5, 2) := by decide +kernel
theorem dX1_leastSquaredLength_40 : decode mi_X1_leastSquaredLength.2.1 40 = .ok (.iload 5, 2) := by decide +kernel
theorem dX1_leastSquaredLength_42 : decode mi_X1_leastSquaredLength.2.1 42 = .ok (.ifCond .le 25, 3) := by decide +kernel
theorem dX1_leastSquaredLength_45 : decode mi_X1_leastSquaredLength.2.1 45 = .ok (.iload 5, 2) := by decide +kernel
theorem dX1_leastSquaredLength_47 : decode mi_X1_leastSquaredLength.2.1 47 = .ok (.iload_n 2, 1) := by decide +kernel
theorem dX1_leastSquaredLength_48 : decode mi_X1_leastSquaredLength.2.1 48 = .ok (.if_icmp .ge 19, 3) := by decide +kernel
theorem dX1_leastSquaredLength_51 : decode mi_X1_leastSquaredLength.2.1 51 = .ok (.aload_n 0, 1) := by decide +kernel
theorem dX1_leastSquaredLength_52 : decode mi_X1_leastSquaredLength.2.1 52 = .ok (.getfield 26, 3) := by decide +kernel
theorem dX1_leastSquaredLength_55 : decode mi_X1_leastSquaredLength.2.1 55 = .ok (.iload_n 3, 1) := by decide +kernel
theorem dX1_leastSquaredLength_56 : decode mi_X1_leastSquaredLength.2.1 56 = .ok (.iload 4, 2) := by decide +kernel
theorem dX1_leastSquaredLength_58 : decode mi_X1_leastSquaredLength.2.1 58 = .ok (.invokevirtual 94, 3) := by decide +kernel
theorem dX1_leastSquaredLength_61 : decode mi_X1_leastSquaredLength.2.1 61 = .ok (.ifCond .eq 6, 3) := by decide +kernel
theorem dX1_leastSquaredLength_64 : decode mi_X1_leastSquaredLength.2.1 64 = .ok (.iload 5, 2) := by decide +kernel
theorem dX1_leastSquaredLength_66 : decode mi_X1_leastSquaredLength.2.1 66 = .ok (.istore_n 2, 1) := by decide +kernel
theorem dX1_leastSquaredLength_67 : decode mi_X1_leastSquaredLength.2.1 67 = .ok (.iinc 4 1, 3) := by decide +kernel
theorem dX1_leastSquaredLength_70 : decode mi_X1_leastSquaredLength.2.1 70 = .ok (.goto (-44), 3) := by decide +kernel
theorem dX1_leastSquaredLength_73 : decode mi_X1_leastSquaredLength.2.1 73 = .ok (.iinc 3 1, 3) := by decide +kernel
theorem dX1_leastSquaredLength_76 : decode mi_X1_leastSquaredLength.2.1 76 = .ok (.goto (-59), 3) := by decide +kernel
theorem dX1_leastSquaredLength_79 : decode mi_X1_leastSquaredLength.2.1 79 = .ok (.iload_n 2, 1) := by decide +kernel
theorem dX1_leastSquaredLength_80 : decode mi_X1_leastSquaredLength.2.1 80 = .ok (.ireturn, 1) := by decide +kernel
theorem dX1_squaredLength_0 : decode mi_X1_squaredLength.2.1 0 = .ok (.iload_n 0, 1) := by decide +kernel
theorem dX1_squaredLength_1 : decode mi_X1_squaredLength.2.1 1 = .ok (.iload_n 0, 1) := by decide +kernel
theorem dX1_squaredLength_2 : decode mi_X1_squaredLength.2.1 2 = .ok (.imul, 1) := by decide +kernel
theorem dX1_squaredLength_3 : decode mi_X1_squaredLength.2.1 3 = .ok (.iload_n 0, 1) := by decide +kernel
theorem dX1_squaredLength_4 : decode mi_X1_squaredLength.2.1 4 = .ok (.iload_n 1, 1) := by decide +kernel
theorem dX1_squaredLength_5 : decode mi_X1_squaredLength.2.1 5 = .ok (.imul, 1) := by decide +kernel
theorem dX1_squaredLength_6 : decode mi_X1_squaredLength.2.1 6 = .ok (.iadd, 1) := by decide +kernel
theorem dX1_squaredLength_7 : decode mi_X1_squaredLength.2.1 7 = .ok (.iload_n 1, 1) := by decide +kernel
theorem dX1_squaredLength_8 : decode mi_X1_squaredLength.2.1 8 = .ok (.iload_n 1, 1) := by decide +kernel
theorem dX1_squaredLength_9 : decode mi_X1_squaredLength.2.1 9 = .ok (.imul, 1) := by decide +kernel
theorem dX1_squaredLength_10 : decode mi_X1_squaredLength.2.1 10 = .ok (.iadd, 1) := by decide +kernel
theorem dX1_squaredLength_11 : decode mi_X1_squaredLength.2.1 11 = .ok (.ireturn, 1) := by decide +kernel
theorem dX1_isFixedByReversal_0 : decode mi_X1_isFixedByReversal.2.1 0 = .ok (.aload_n 0, 1) := by decide +kernel
theorem dX1_isFixedByReversal_1 : decode mi_X1_isFixedByReversal.2.1 1 = .ok (.getfield 22, 3) := by decide +kernel
theorem dX1_isFixedByReversal_4 : decode mi_X1_isFixedByReversal.2.1 4 = .ok (.invokevirtual 64, 3) := by decide +kernel
theorem dX1_isFixedByReversal_7 : decode mi_X1_isFixedByReversal.2.1 7 = .ok (.istore_n 3, 1) := by decide +kernel
theorem dX1_isFixedByReversal_8 : decode mi_X1_isFixedByReversal.2.1 8 = .ok (.iload_n 3, 1) := by decide +kernel
theorem dX1_isFixedByReversal_9 : decode mi_X1_isFixedByReversal.2.1 9 = .ok (.aload_n 0, 1) := by decide +kernel
theorem dX1_isFixedByReversal_10 : decode mi_X1_isFixedByReversal.2.1 10 = .ok (.getfield 22, 3) := by decide +kernel
theorem dX1_isFixedByReversal_13 : decode mi_X1_isFixedByReversal.2.1 13 = .ok (.invokevirtual 80, 3) := by decide +kernel
theorem dX1_isFixedByReversal_16 : decode mi_X1_isFixedByReversal.2.1 16 = .ok (.if_icmp .ge 47, 3) := by decide +kernel
theorem dX1_isFixedByReversal_19 : decode mi_X1_isFixedByReversal.2.1 19 = .ok (.aload_n 0, 1) := by decide +kernel
theorem dX1_isFixedByReversal_20 : decode mi_X1_isFixedByReversal.2.1 20 = .ok (.iload_n 3, 1) := by decide +kernel
theorem dX1_isFixedByReversal_21 : decode mi_X1_isFixedByReversal.2.1 21 = .ok (.invokevirtual 67, 3) := by decide +kernel
theorem dX1_isFixedByReversal_24 : decode mi_X1_isFixedByReversal.2.1 24 = .ok (.ifCond .eq 33, 3) := by decide +kernel
theorem dX1_isFixedByReversal_27 : decode mi_X1_isFixedByReversal.2.1 27 = .ok (.aload_n 0, 1) := by decide +kernel
theorem dX1_isFixedByReversal_28 : decode mi_X1_isFixedByReversal.2.1 28 = .ok (.getfield 22, 3) := by decide +kernel
theorem dX1_isFixedByReversal_31 : decode mi_X1_isFixedByReversal.2.1 31 = .ok (.iload_n 3, 1) := by decide +kernel
theorem dX1_isFixedByReversal_32 : decode mi_X1_isFixedByReversal.2.1 32 = .ok (.iload_n 1, 1) := by decide +kernel
theorem dX1_isFixedByReversal_33 : decode mi_X1_isFixedByReversal.2.1 33 = .ok (.iload_n 2, 1) := by decide +kernel
theorem dX1_isFixedByReversal_34 : decode mi_X1_isFixedByReversal.2.1 34 = .ok (.invokevirtual 97, 3) := by decide +kernel
theorem dX1_isFixedByReversal_37 : decode mi_X1_isFixedByReversal.2.1 37 = .ok (.iload_n 1, 1) := by decide +kernel
theorem dX1_isFixedByReversal_38 : decode mi_X1_isFixedByReversal.2.1 38 = .ok (.if_icmp .ne 19, 3) := by decide +kernel
theorem dX1_isFixedByReversal_41 : decode mi_X1_isFixedByReversal.2.1 41 = .ok (.aload_n 0, 1) := by decide +kernel
theorem dX1_isFixedByReversal_42 : decode mi_X1_isFixedByReversal.2.1 42 = .ok (.getfield 22, 3) := by decide +kernel
theorem dX1_isFixedByReversal_45 : decode mi_X1_isFixedByReversal.2.1 45 = .ok (.iload_n 3, 1) := by decide +kernel
theorem dX1_isFixedByReversal_46 : decode mi_X1_isFixedByReversal.2.1 46 = .ok (.iload_n 1, 1) := by decide +kernel
theorem dX1_isFixedByReversal_47 : decode mi_X1_isFixedByReversal.2.1 47 = .ok (.iload_n 2, 1) := by decide +kernel
theorem dX1_isFixedByReversal_48 : decode mi_X1_isFixedByReversal.2.1 48 = .ok (.invokevirtual 101, 3) := by decide +kernel
theorem dX1_isFixedByReversal_51 : decode mi_X1_isFixedByReversal.2.1 51 = .ok (.iload_n 2, 1) := by decide +kernel
theorem dX1_isFixedByReversal_52 : decode mi_X1_isFixedByReversal.2.1 52 = .ok (.if_icmp .ne 5, 3) := by decide +kernel
theorem dX1_isFixedByReversal_55 : decode mi_X1_isFixedByReversal.2.1 55 = .ok (.iconst 1, 1) := by decide +kernel
theorem dX1_isFixedByReversal_56 : decode mi_X1_isFixedByReversal.2.1 56 = .ok (.ireturn, 1) := by decide +kernel
theorem dX1_isFixedByReversal_57 : decode mi_X1_isFixedByReversal.2.1 57 = .ok (.iinc 3 1, 3) := by decide +kernel
theorem dX1_isFixedByReversal_60 : decode mi_X1_isFixedByReversal.2.1 60 = .ok (.goto (-52), 3) := by decide +kernel
theorem dX1_isFixedByReversal_63 : decode mi_X1_isFixedByReversal.2.1 63 = .ok (.iconst 0, 1) := by decide +kernel
theorem dX1_isFixedByReversal_64 : decode mi_X1_isFixedByReversal.2.1 64 = .ok (.ireturn, 1) := by decide +kernel
theorem dX2_has_0 : decode mi_X2_has.2.1 0 = .ok (.iload_n 1, 1) := by decide +kernel
theorem dX2_has_1 : decode mi_X2_has.2.1 1 = .ok (.aload_n 0, 1) := by decide +kernel
theorem dX2_has_2 : decode mi_X2_has.2.1 2 = .ok (.getfield 15, 3) := by decide +kernel
theorem dX2_has_5 : decode mi_X2_has.2.1 5 = .ok (.invokestatic 19, 3) := by decide +kernel
theorem dX2_has_8 : decode mi_X2_has.2.1 8 = .ok (.ireturn, 1) := by decide +kernel
theorem dX2_isFull_0 : decode mi_X2_isFull.2.1 0 = .ok (.aload_n 0, 1) := by decide +kernel
theorem dX2_isFull_1 : decode mi_X2_isFull.2.1 1 = .ok (.getfield 15, 3) := by decide +kernel
theorem dX2_isFull_4 : decode mi_X2_isFull.2.1 4 = .ok (.iconst 4, 1) := by decide +kernel
theorem dX2_isFull_5 : decode mi_X2_isFull.2.1 5 = .ok (.if_icmp .lt 7, 3) := by decide +kernel
theorem dX2_isFull_8 : decode mi_X2_isFull.2.1 8 = .ok (.iconst 1, 1) := by decide +kernel
theorem dX2_isFull_9 : decode mi_X2_isFull.2.1 9 = .ok (.goto 4, 3) := by decide +kernel
theorem dX2_isFull_12 : decode mi_X2_isFull.2.1 12 = .ok (.iconst 0, 1) := by decide +kernel
theorem dX2_isFull_13 : decode mi_X2_isFull.2.1 13 = .ok (.ireturn, 1) := by decide +kernel
theorem dX2_codeAt_0 : decode mi_X2_codeAt.2.1 0 = .ok (.iload_n 1, 1) := by decide +kernel
theorem dX2_codeAt_1 : decode mi_X2_codeAt.2.1 1 = .ok (.iconst 4, 1) := by decide +kernel
theorem dX2_codeAt_2 : decode mi_X2_codeAt.2.1 2 = .ok (.invokestatic 19, 3) := by decide +kernel
theorem dX2_codeAt_5 : decode mi_X2_codeAt.2.1 5 = .ok (.ifCond .eq 12, 3) := by decide +kernel
theorem dX2_codeAt_8 : decode mi_X2_codeAt.2.1 8 = .ok (.aload_n 0, 1) := by decide +kernel
theorem dX2_codeAt_9 : decode mi_X2_codeAt.2.1 9 = .ok (.getfield 9, 3) := by decide +kernel
theorem dX2_codeAt_12 : decode mi_X2_codeAt.2.1 12 = .ok (.iload_n 1, 1) := by decide +kernel
theorem dX2_codeAt_13 : decode mi_X2_codeAt.2.1 13 = .ok (.iaload, 1) := by decide +kernel
theorem dX2_codeAt_14 : decode mi_X2_codeAt.2.1 14 = .ok (.goto 4, 3) := by decide +kernel
theorem dX2_codeAt_17 : decode mi_X2_codeAt.2.1 17 = .ok (.iconst 0, 1) := by decide +kernel
theorem dX2_codeAt_18 : decode mi_X2_codeAt.2.1 18 = .ok (.ireturn, 1) := by decide +kernel
theorem dX2_replace_0 : decode mi_X2_replace.2.1 0 = .ok (.iload_n 1, 1) := by decide +kernel
theorem dX2_replace_1 : decode mi_X2_replace.2.1 1 = .ok (.iconst 4, 1) := by decide +kernel
theorem dX2_replace_2 : decode mi_X2_replace.2.1 2 = .ok (.invokestatic 19, 3) := by decide +kernel
theorem dX2_replace_5 : decode mi_X2_replace.2.1 5 = .ok (.ifCond .eq 10, 3) := by decide +kernel
theorem dX2_replace_8 : decode mi_X2_replace.2.1 8 = .ok (.aload_n 0, 1) := by decide +kernel
theorem dX2_replace_9 : decode mi_X2_replace.2.1 9 = .ok (.getfield 9, 3) := by decide +kernel
theorem dX2_replace_12 : decode mi_X2_replace.2.1 12 = .ok (.iload_n 1, 1) := by decide +kernel
theorem dX2_replace_13 : decode mi_X2_replace.2.1 13 = .ok (.iload_n 2, 1) := by decide +kernel
theorem dX2_replace_14 : decode mi_X2_replace.2.1 14 = .ok (.iastore, 1) := by decide +kernel
theorem dX2_replace_15 : decode mi_X2_replace.2.1 15 = .ok (.return_, 1) := by decide +kernel
theorem dX2_append_0 : decode mi_X2_append.2.1 0 = .ok (.aload_n 0, 1) := by decide +kernel
theorem dX2_append_1 : decode mi_X2_append.2.1 1 = .ok (.invokevirtual 23, 3) := by decide +kernel
theorem dX2_append_4 : decode mi_X2_append.2.1 4 = .ok (.ifCond .ne 22, 3) := by decide +kernel
theorem dX2_append_7 : decode mi_X2_append.2.1 7 = .ok (.aload_n 0, 1) := by decide +kernel
theorem dX2_append_8 : decode mi_X2_append.2.1 8 = .ok (.aload_n 0, 1) := by decide +kernel
theorem dX2_append_9 : decode mi_X2_append.2.1 9 = .ok (.getfield 15, 3) := by decide +kernel
theorem dX2_append_12 : decode mi_X2_append.2.1 12 = .ok (.iload_n 1, 1) := by decide +kernel
theorem dX2_append_13 : decode mi_X2_append.2.1 13 = .ok (.invokevirtual 27, 3) := by decide +kernel
theorem dX2_append_16 : decode mi_X2_append.2.1 16 = .ok (.aload_n 0, 1) := by decide +kernel
theorem dX2_append_17 : decode mi_X2_append.2.1 17 = .ok (.dup, 1) := by decide +kernel
theorem dX2_append_18 : decode mi_X2_append.2.1 18 = .ok (.getfield 15, 3) := by decide +kernel
theorem dX2_append_21 : decode mi_X2_append.2.1 21 = .ok (.iconst 1, 1) := by decide +kernel
theorem dX2_append_22 : decode mi_X2_append.2.1 22 = .ok (.iadd, 1) := by decide +kernel
theorem dX2_append_23 : decode mi_X2_append.2.1 23 = .ok (.putfield 15, 3) := by decide +kernel
theorem dX2_append_26 : decode mi_X2_append.2.1 26 = .ok (.return_, 1) := by decide +kernel
theorem dX2_removeAt_0 : decode mi_X2_removeAt.2.1 0 = .ok (.aload_n 0, 1) := by decide +kernel
theorem dX2_removeAt_1 : decode mi_X2_removeAt.2.1 1 = .ok (.iload_n 1, 1) := by decide +kernel
theorem dX2_removeAt_2 : decode mi_X2_removeAt.2.1 2 = .ok (.invokevirtual 31, 3) := by decide +kernel
theorem dX2_removeAt_5 : decode mi_X2_removeAt.2.1 5 = .ok (.ifCond .ne 4, 3) := by decide +kernel
theorem dX2_removeAt_8 : decode mi_X2_removeAt.2.1 8 = .ok (.return_, 1) := by decide +kernel
theorem dX2_removeAt_9 : decode mi_X2_removeAt.2.1 9 = .ok (.iload_n 1, 1) := by decide +kernel
theorem dX2_removeAt_10 : decode mi_X2_removeAt.2.1 10 = .ok (.istore_n 2, 1) := by decide +kernel
theorem dX2_removeAt_11 : decode mi_X2_removeAt.2.1 11 = .ok (.iload_n 2, 1) := by decide +kernel
theorem dX2_removeAt_12 : decode mi_X2_removeAt.2.1 12 = .ok (.aload_n 0, 1) := by decide +kernel
theorem dX2_removeAt_13 : decode mi_X2_removeAt.2.1 13 = .ok (.getfield 15, 3) := by decide +kernel
theorem dX2_removeAt_16 : decode mi_X2_removeAt.2.1 16 = .ok (.iconst 1, 1) := by decide +kernel
theorem dX2_removeAt_17 : decode mi_X2_removeAt.2.1 17 = .ok (.isub, 1) := by decide +kernel
theorem dX2_removeAt_18 : decode mi_X2_removeAt.2.1 18 = .ok (.if_icmp .ge 21, 3) := by decide +kernel
theorem dX2_removeAt_21 : decode mi_X2_removeAt.2.1 21 = .ok (.aload_n 0, 1) := by decide +kernel
theorem dX2_removeAt_22 : decode mi_X2_removeAt.2.1 22 = .ok (.iload_n 2, 1) := by decide +kernel
theorem dX2_removeAt_23 : decode mi_X2_removeAt.2.1 23 = .ok (.aload_n 0, 1) := by decide +kernel
theorem dX2_removeAt_24 : decode mi_X2_removeAt.2.1 24 = .ok (.iload_n 2, 1) := by decide +kernel
theorem dX2_removeAt_25 : decode mi_X2_removeAt.2.1 25 = .ok (.iconst 1, 1) := by decide +kernel
theorem dX2_removeAt_26 : decode mi_X2_removeAt.2.1 26 = .ok (.iadd, 1) := by decide +kernel
theorem dX2_removeAt_27 : decode mi_X2_removeAt.2.1 27 = .ok (.invokevirtual 35, 3) := by decide +kernel
theorem dX2_removeAt_30 : decode mi_X2_removeAt.2.1 30 = .ok (.invokevirtual 27, 3) := by decide +kernel
theorem dX2_removeAt_33 : decode mi_X2_removeAt.2.1 33 = .ok (.iinc 2 1, 3) := by decide +kernel
theorem dX2_removeAt_36 : decode mi_X2_removeAt.2.1 36 = .ok (.goto (-25), 3) := by decide +kernel
theorem dX2_removeAt_39 : decode mi_X2_removeAt.2.1 39 = .ok (.aload_n 0, 1) := by decide +kernel
theorem dX2_removeAt_40 : decode mi_X2_removeAt.2.1 40 = .ok (.dup, 1) := by decide +kernel
theorem dX2_removeAt_41 : decode mi_X2_removeAt.2.1 41 = .ok (.getfield 15, 3) := by decide +kernel
theorem dX2_removeAt_44 : decode mi_X2_removeAt.2.1 44 = .ok (.iconst 1, 1) := by decide +kernel
theorem dX2_removeAt_45 : decode mi_X2_removeAt.2.1 45 = .ok (.isub, 1) := by decide +kernel
theorem dX2_removeAt_46 : decode mi_X2_removeAt.2.1 46 = .ok (.putfield 15, 3) := by decide +kernel
theorem dX2_removeAt_49 : decode mi_X2_removeAt.2.1 49 = .ok (.return_, 1) := by decide +kernel
theorem dX2_clear_0 : decode mi_X2_clear.2.1 0 = .ok (.aload_n 0, 1) := by decide +kernel
theorem dX2_clear_1 : decode mi_X2_clear.2.1 1 = .ok (.iconst 0, 1) := by decide +kernel
theorem dX2_clear_2 : decode mi_X2_clear.2.1 2 = .ok (.putfield 15, 3) := by decide +kernel
theorem dX2_clear_5 : decode mi_X2_clear.2.1 5 = .ok (.return_, 1) := by decide +kernel
theorem dX3_size_0 : decode mi_X3_size.2.1 0 = .ok (.aload_n 0, 1) := by decide +kernel
theorem dX3_size_1 : decode mi_X3_size.2.1 1 = .ok (.getfield 33, 3) := by decide +kernel
theorem dX3_size_4 : decode mi_X3_size.2.1 4 = .ok (.ireturn, 1) := by decide +kernel
theorem dX3_elementAt_0 : decode mi_X3_elementAt.2.1 0 = .ok (.iload_n 1, 1) := by decide +kernel
theorem dX3_elementAt_1 : decode mi_X3_elementAt.2.1 1 = .ok (.sipush 300, 3) := by decide +kernel
theorem dX3_elementAt_4 : decode mi_X3_elementAt.2.1 4 = .ok (.invokestatic 37, 3) := by decide +kernel
theorem dX3_elementAt_7 : decode mi_X3_elementAt.2.1 7 = .ok (.ifCond .eq 12, 3) := by decide +kernel
theorem dX3_elementAt_10 : decode mi_X3_elementAt.2.1 10 = .ok (.aload_n 0, 1) := by decide +kernel
theorem dX3_elementAt_11 : decode mi_X3_elementAt.2.1 11 = .ok (.getfield 15, 3) := by decide +kernel
theorem dX3_elementAt_14 : decode mi_X3_elementAt.2.1 14 = .ok (.iload_n 1, 1) := by decide +kernel
theorem dX3_elementAt_15 : decode mi_X3_elementAt.2.1 15 = .ok (.iaload, 1) := by decide +kernel
theorem dX3_elementAt_16 : decode mi_X3_elementAt.2.1 16 = .ok (.goto 4, 3) := by decide +kernel
theorem dX3_elementAt_19 : decode mi_X3_elementAt.2.1 19 = .ok (.iconst 0, 1) := by decide +kernel
theorem dX3_elementAt_20 : decode mi_X3_elementAt.2.1 20 = .ok (.ireturn, 1) := by decide +kernel
theorem dX3_has_0 : decode mi_X3_has.2.1 0 = .ok (.iload_n 1, 1) := by decide +kernel
theorem dX3_has_1 : decode mi_X3_has.2.1 1 = .ok (.sipush 300, 3) := by decide +kernel
theorem dX3_has_4 : decode mi_X3_has.2.1 4 = .ok (.invokestatic 37, 3) := by decide +kernel
theorem dX3_has_7 : decode mi_X3_has.2.1 7 = .ok (.ifCond .eq 16, 3) := by decide +kernel
theorem dX3_has_10 : decode mi_X3_has.2.1 10 = .ok (.aload_n 0, 1) := by decide +kernel
theorem dX3_has_11 : decode mi_X3_has.2.1 11 = .ok (.getfield 9, 3) := by decide +kernel
theorem dX3_has_14 : decode mi_X3_has.2.1 14 = .ok (.iload_n 1, 1) := by decide +kernel
theorem dX3_has_15 : decode mi_X3_has.2.1 15 = .ok (.baload, 1) := by decide +kernel
theorem dX3_has_16 : decode mi_X3_has.2.1 16 = .ok (.ifCond .eq 7, 3) := by decide +kernel
theorem dX3_has_19 : decode mi_X3_has.2.1 19 = .ok (.iconst 1, 1) := by decide +kernel
theorem dX3_has_20 : decode mi_X3_has.2.1 20 = .ok (.goto 4, 3) := by decide +kernel
theorem dX3_has_23 : decode mi_X3_has.2.1 23 = .ok (.iconst 0, 1) := by decide +kernel
theorem dX3_has_24 : decode mi_X3_has.2.1 24 = .ok (.ireturn, 1) := by decide +kernel
theorem dX3_hasTranslation_0 : decode mi_X3_hasTranslation.2.1 0 = .ok (.aload_n 0, 1) := by decide +kernel
theorem dX3_hasTranslation_1 : decode mi_X3_hasTranslation.2.1 1 = .ok (.aload_n 0, 1) := by decide +kernel
theorem dX3_hasTranslation_2 : decode mi_X3_hasTranslation.2.1 2 = .ok (.getfield 25, 3) := by decide +kernel
theorem dX3_hasTranslation_5 : decode mi_X3_hasTranslation.2.1 5 = .ok (.iconst 0, 1) := by decide +kernel
theorem dX3_hasTranslation_6 : decode mi_X3_hasTranslation.2.1 6 = .ok (.aload_n 0, 1) := by decide +kernel
theorem dX3_hasTranslation_7 : decode mi_X3_hasTranslation.2.1 7 = .ok (.getfield 25, 3) := by decide +kernel
theorem dX3_hasTranslation_10 : decode mi_X3_hasTranslation.2.1 10 = .ok (.iload_n 1, 1) := by decide +kernel
theorem dX3_hasTranslation_11 : decode mi_X3_hasTranslation.2.1 11 = .ok (.invokevirtual 41, 3) := by decide +kernel
theorem dX3_hasTranslation_14 : decode mi_X3_hasTranslation.2.1 14 = .ok (.aload_n 0, 1) := by decide +kernel
theorem dX3_hasTranslation_15 : decode mi_X3_hasTranslation.2.1 15 = .ok (.getfield 25, 3) := by decide +kernel
theorem dX3_hasTranslation_18 : decode mi_X3_hasTranslation.2.1 18 = .ok (.iload_n 2, 1) := by decide +kernel
theorem dX3_hasTranslation_19 : decode mi_X3_hasTranslation.2.1 19 = .ok (.invokevirtual 41, 3) := by decide +kernel
theorem dX3_hasTranslation_22 : decode mi_X3_hasTranslation.2.1 22 = .ok (.invokevirtual 47, 3) := by decide +kernel
theorem dX3_hasTranslation_25 : decode mi_X3_hasTranslation.2.1 25 = .ok (.invokevirtual 51, 3) := by decide +kernel
theorem dX3_hasTranslation_28 : decode mi_X3_hasTranslation.2.1 28 = .ok (.ireturn, 1) := by decide +kernel
theorem dX3_rebuild_0 : decode mi_X3_rebuild.2.1 0 = .ok (.aload_n 0, 1) := by decide +kernel
theorem dX3_rebuild_1 : decode mi_X3_rebuild.2.1 1 = .ok (.getfield 9, 3) := by decide +kernel
theorem dX3_rebuild_4 : decode mi_X3_rebuild.2.1 4 = .ok (.invokestatic 55, 3) := by decide +kernel
theorem dX3_rebuild_7 : decode mi_X3_rebuild.2.1 7 = .ok (.aload_n 0, 1) := by decide +kernel
theorem dX3_rebuild_8 : decode mi_X3_rebuild.2.1 8 = .ok (.iconst 0, 1) := by decide +kernel
theorem dX3_rebuild_9 : decode mi_X3_rebuild.2.1 9 = .ok (.putfield 33, 3) := by decide +kernel
theorem dX3_rebuild_12 : decode mi_X3_rebuild.2.1 12 = .ok (.aload_n 0, 1) := by decide +kernel
theorem dX3_rebuild_13 : decode mi_X3_rebuild.2.1 13 = .ok (.iconst 0, 1) := by decide +kernel
theorem dX3_rebuild_14 : decode mi_X3_rebuild.2.1 14 = .ok (.invokevirtual 59, 3) := by decide +kernel
theorem dX3_rebuild_17 : decode mi_X3_rebuild.2.1 17 = .ok (.iconst 0, 1) := by decide +kernel
theorem dX3_rebuild_18 : decode mi_X3_rebuild.2.1 18 = .ok (.istore_n 1, 1) := by decide +kernel
theorem dX3_rebuild_19 : decode mi_X3_rebuild.2.1 19 = .ok (.iload_n 1, 1) := by decide +kernel
theorem dX3_rebuild_20 : decode mi_X3_rebuild.2.1 20 = .ok (.aload_n 0, 1) := by decide +kernel
theorem dX3_rebuild_21 : decode mi_X3_rebuild.2.1 21 = .ok (.getfield 33, 3) := by decide +kernel
theorem dX3_rebuild_24 : decode mi_X3_rebuild.2.1 24 = .ok (.if_icmp .ge 60, 3) := by decide +kernel
theorem dX3_rebuild_27 : decode mi_X3_rebuild.2.1 27 = .ok (.iload_n 1, 1) := by decide +kernel
theorem dX3_rebuild_28 : decode mi_X3_rebuild.2.1 28 = .ok (.sipush 300, 3) := by decide +kernel
theorem dX3_rebuild_31 : decode mi_X3_rebuild.2.1 31 = .ok (.if_icmp .ge 53, 3) := by decide +kernel
theorem dX3_rebuild_34 : decode mi_X3_rebuild.2.1 34 = .ok (.iconst 0, 1) := by decide +kernel
theorem dX3_rebuild_35 : decode mi_X3_rebuild.2.1 35 = .ok (.istore_n 2, 1) := by decide +kernel
theorem dX3_rebuild_36 : decode mi_X3_rebuild.2.1 36 = .ok (.iload_n 2, 1) := by decide +kernel
theorem dX3_rebuild_37 : decode mi_X3_rebuild.2.1 37 = .ok (.aload_n 0, 1) := by decide +kernel
theorem dX3_rebuild_38 : decode mi_X3_rebuild.2.1 38 = .ok (.getfield 29, 3) := by decide +kernel
theorem dX3_rebuild_41 : decode mi_X3_rebuild.2.1 41 = .ok (.getfield 63, 3) := by decide +kernel
theorem dX3_rebuild_44 : decode mi_X3_rebuild.2.1 44 = .ok (.if_icmp .ge 34, 3) := by decide +kernel
theorem dX3_rebuild_47 : decode mi_X3_rebuild.2.1 47 = .ok (.aload_n 0, 1) := by decide +kernel
theorem dX3_rebuild_48 : decode mi_X3_rebuild.2.1 48 = .ok (.aload_n 0, 1) := by decide +kernel
theorem dX3_rebuild_49 : decode mi_X3_rebuild.2.1 49 = .ok (.getfield 25, 3) := by decide +kernel
theorem dX3_rebuild_52 : decode mi_X3_rebuild.2.1 52 = .ok (.aload_n 0, 1) := by decide +kernel
theorem dX3_rebuild_53 : decode mi_X3_rebuild.2.1 53 = .ok (.getfield 15, 3) := by decide +kernel
theorem dX3_rebuild_56 : decode mi_X3_rebuild.2.1 56 = .ok (.iload_n 1, 1) := by decide +kernel
theorem dX3_rebuild_57 : decode mi_X3_rebuild.2.1 57 = .ok (.iaload, 1) := by decide +kernel
theorem dX3_rebuild_58 : decode mi_X3_rebuild.2.1 58 = .ok (.aload_n 0, 1) := by decide +kernel
theorem dX3_rebuild_59 : decode mi_X3_rebuild.2.1 59 = .ok (.getfield 29, 3) := by decide +kernel
theorem dX3_rebuild_62 : decode mi_X3_rebuild.2.1 62 = .ok (.iload_n 2, 1) := by decide +kernel
theorem dX3_rebuild_63 : decode mi_X3_rebuild.2.1 63 = .ok (.invokevirtual 68, 3) := by decide +kernel
theorem dX3_rebuild_66 : decode mi_X3_rebuild.2.1 66 = .ok (.invokevirtual 71, 3) := by decide +kernel
theorem dX3_rebuild_69 : decode mi_X3_rebuild.2.1 69 = .ok (.invokevirtual 59, 3) := by decide +kernel
theorem dX3_rebuild_72 : decode mi_X3_rebuild.2.1 72 = .ok (.iinc 2 1, 3) := by decide +kernel
theorem dX3_rebuild_75 : decode mi_X3_rebuild.2.1 75 = .ok (.goto (-39), 3) := by decide +kernel
theorem dX3_rebuild_78 : decode mi_X3_rebuild.2.1 78 = .ok (.iinc 1 1, 3) := by decide +kernel
theorem dX3_rebuild_81 : decode mi_X3_rebuild.2.1 81 = .ok (.goto (-62), 3) := by decide +kernel
theorem dX3_rebuild_84 : decode mi_X3_rebuild.2.1 84 = .ok (.aload_n 0, 1) := by decide +kernel
theorem dX3_rebuild_85 : decode mi_X3_rebuild.2.1 85 = .ok (.invokevirtual 75, 3) := by decide +kernel
theorem dX3_rebuild_88 : decode mi_X3_rebuild.2.1 88 = .ok (.return_, 1) := by decide +kernel
theorem dX3_admit_0 : decode mi_X3_admit.2.1 0 = .ok (.iload_n 1, 1) := by decide +kernel
theorem dX3_admit_1 : decode mi_X3_admit.2.1 1 = .ok (.sipush 300, 3) := by decide +kernel
theorem dX3_admit_4 : decode mi_X3_admit.2.1 4 = .ok (.invokestatic 37, 3) := by decide +kernel
theorem dX3_admit_7 : decode mi_X3_admit.2.1 7 = .ok (.ifCond .eq 52, 3) := by decide +kernel
theorem dX3_admit_10 : decode mi_X3_admit.2.1 10 = .ok (.aload_n 0, 1) := by decide +kernel
theorem dX3_admit_11 : decode mi_X3_admit.2.1 11 = .ok (.getfield 9, 3) := by decide +kernel
theorem dX3_admit_14 : decode mi_X3_admit.2.1 14 = .ok (.iload_n 1, 1) := by decide +kernel
theorem dX3_admit_15 : decode mi_X3_admit.2.1 15 = .ok (.baload, 1) := by decide +kernel
theorem dX3_admit_16 : decode mi_X3_admit.2.1 16 = .ok (.ifCond .ne 43, 3) := by decide +kernel
theorem dX3_admit_19 : decode mi_X3_admit.2.1 19 = .ok (.aload_n 0, 1) := by decide +kernel
theorem dX3_admit_20 : decode mi_X3_admit.2.1 20 = .ok (.getfield 33, 3) := by decide +kernel
theorem dX3_admit_23 : decode mi_X3_admit.2.1 23 = .ok (.sipush 300, 3) := by decide +kernel
theorem dX3_admit_26 : decode mi_X3_admit.2.1 26 = .ok (.invokestatic 37, 3) := by decide +kernel
theorem dX3_admit_29 : decode mi_X3_admit.2.1 29 = .ok (.ifCond .eq 30, 3) := by decide +kernel
theorem dX3_admit_32 : decode mi_X3_admit.2.1 32 = .ok (.aload_n 0, 1) := by decide +kernel
theorem dX3_admit_33 : decode mi_X3_admit.2.1 33 = .ok (.getfield 9, 3) := by decide +kernel
theorem dX3_admit_36 : decode mi_X3_admit.2.1 36 = .ok (.iload_n 1, 1) := by decide +kernel
theorem dX3_admit_37 : decode mi_X3_admit.2.1 37 = .ok (.iconst 1, 1) := by decide +kernel
theorem dX3_admit_38 : decode mi_X3_admit.2.1 38 = .ok (.bastore, 1) := by decide +kernel
theorem dX3_admit_39 : decode mi_X3_admit.2.1 39 = .ok (.aload_n 0, 1) := by decide +kernel
theorem dX3_admit_40 : decode mi_X3_admit.2.1 40 = .ok (.getfield 15, 3) := by decide +kernel
theorem dX3_admit_43 : decode mi_X3_admit.2.1 43 = .ok (.aload_n 0, 1) := by decide +kernel
theorem dX3_admit_44 : decode mi_X3_admit.2.1 44 = .ok (.getfield 33, 3) := by decide +kernel
theorem dX3_admit_47 : decode mi_X3_admit.2.1 47 = .ok (.iload_n 1, 1) := by decide +kernel
theorem dX3_admit_48 : decode mi_X3_admit.2.1 48 = .ok (.iastore, 1) := by decide +kernel
theorem dX3_admit_49 : decode mi_X3_admit.2.1 49 = .ok (.aload_n 0, 1) := by decide +kernel
theorem dX3_admit_50 : decode mi_X3_admit.2.1 50 = .ok (.dup, 1) := by decide +kernel
theorem dX3_admit_51 : decode mi_X3_admit.2.1 51 = .ok (.getfield 33, 3) := by decide +kernel
theorem dX3_admit_54 : decode mi_X3_admit.2.1 54 = .ok (.iconst 1, 1) := by decide +kernel
theorem dX3_admit_55 : decode mi_X3_admit.2.1 55 = .ok (.iadd, 1) := by decide +kernel
theorem dX3_admit_56 : decode mi_X3_admit.2.1 56 = .ok (.putfield 33, 3) := by decide +kernel
theorem dX3_admit_59 : decode mi_X3_admit.2.1 59 = .ok (.return_, 1) := by decide +kernel
theorem dX3_listByCode_0 : decode mi_X3_listByCode.2.1 0 = .ok (.iconst 0, 1) := by decide +kernel
theorem dX3_listByCode_1 : decode mi_X3_listByCode.2.1 1 = .ok (.istore_n 1, 1) := by decide +kernel
theorem dX3_listByCode_2 : decode mi_X3_listByCode.2.1 2 = .ok (.iconst 0, 1) := by decide +kernel
theorem dX3_listByCode_3 : decode mi_X3_listByCode.2.1 3 = .ok (.istore_n 2, 1) := by decide +kernel
theorem dX3_listByCode_4 : decode mi_X3_listByCode.2.1 4 = .ok (.iload_n 2, 1) := by decide +kernel
theorem dX3_listByCode_5 : decode mi_X3_listByCode.2.1 5 = .ok (.sipush 300, 3) := by decide +kernel
theorem dX3_listByCode_8 : decode mi_X3_listByCode.2.1 8 = .ok (.if_icmp .ge 35, 3) := by decide +kernel
theorem dX3_listByCode_11 : decode mi_X3_listByCode.2.1 11 = .ok (.iload_n 1, 1) := by decide +kernel
theorem dX3_listByCode_12 : decode mi_X3_listByCode.2.1 12 = .ok (.sipush 300, 3) := by decide +kernel
theorem dX3_listByCode_15 : decode mi_X3_listByCode.2.1 15 = .ok (.if_icmp .ge 28, 3) := by decide +kernel
theorem dX3_listByCode_18 : decode mi_X3_listByCode.2.1 18 = .ok (.aload_n 0, 1) := by decide +kernel
theorem dX3_listByCode_19 : decode mi_X3_listByCode.2.1 19 = .ok (.getfield 9, 3) := by decide +kernel
theorem dX3_listByCode_22 : decode mi_X3_listByCode.2.1 22 = .ok (.iload_n 2, 1) := by decide +kernel
theorem dX3_listByCode_23 : decode mi_X3_listByCode.2.1 23 = .ok (.baload, 1) := by decide +kernel
theorem dX3_listByCode_24 : decode mi_X3_listByCode.2.1 24 = .ok (.ifCond .eq 13, 3) := by decide +kernel
theorem dX3_listByCode_27 : decode mi_X3_listByCode.2.1 27 = .ok (.aload_n 0, 1) := by decide +kernel
theorem dX3_listByCode_28 : decode mi_X3_listByCode.2.1 28 = .ok (.getfield 15, 3) := by decide +kernel
theorem dX3_listByCode_31 : decode mi_X3_listByCode.2.1 31 = .ok (.iload_n 1, 1) := by decide +kernel
theorem dX3_listByCode_32 : decode mi_X3_listByCode.2.1 32 = .ok (.iload_n 2, 1) := by decide +kernel
theorem dX3_listByCode_33 : decode mi_X3_listByCode.2.1 33 = .ok (.iastore, 1) := by decide +kernel
theorem dX3_listByCode_34 : decode mi_X3_listByCode.2.1 34 = .ok (.iinc 1 1, 3) := by decide +kernel
theorem dX3_listByCode_37 : decode mi_X3_listByCode.2.1 37 = .ok (.iinc 2 1, 3) := by decide +kernel
theorem dX3_listByCode_40 : decode mi_X3_listByCode.2.1 40 = .ok (.goto (-36), 3) := by decide +kernel
theorem dX3_listByCode_43 : decode mi_X3_listByCode.2.1 43 = .ok (.return_, 1) := by decide +kernel
theorem dX3_commutes_0 : decode mi_X3_commutes.2.1 0 = .ok (.iconst 0, 1) := by decide +kernel
theorem dX3_commutes_1 : decode mi_X3_commutes.2.1 1 = .ok (.istore_n 1, 1) := by decide +kernel
theorem dX3_commutes_2 : decode mi_X3_commutes.2.1 2 = .ok (.iload_n 1, 1) := by decide +kernel
theorem dX3_commutes_3 : decode mi_X3_commutes.2.1 3 = .ok (.aload_n 0, 1) := by decide +kernel
theorem dX3_commutes_4 : decode mi_X3_commutes.2.1 4 = .ok (.getfield 29, 3) := by decide +kernel
theorem dX3_commutes_7 : decode mi_X3_commutes.2.1 7 = .ok (.getfield 63, 3) := by decide +kernel
theorem dX3_commutes_10 : decode mi_X3_commutes.2.1 10 = .ok (.if_icmp .ge 66, 3) := by decide +kernel
theorem dX3_commutes_13 : decode mi_X3_commutes.2.1 13 = .ok (.iconst 0, 1) := by decide +kernel
theorem dX3_commutes_14 : decode mi_X3_commutes.2.1 14 = .ok (.istore_n 2, 1) := by decide +kernel
theorem dX3_commutes_15 : decode mi_X3_commutes.2.1 15 = .ok (.iload_n 2, 1) := by decide +kernel
theorem dX3_commutes_16 : decode mi_X3_commutes.2.1 16 = .ok (.iload_n 1, 1) := by decide +kernel
theorem dX3_commutes_17 : decode mi_X3_commutes.2.1 17 = .ok (.if_icmp .ge 53, 3) := by decide +kernel
theorem dX3_commutes_20 : decode mi_X3_commutes.2.1 20 = .ok (.aload_n 0, 1) := by decide +kernel
theorem dX3_commutes_21 : decode mi_X3_commutes.2.1 21 = .ok (.getfield 29, 3) := by decide +kernel
theorem dX3_commutes_24 : decode mi_X3_commutes.2.1 24 = .ok (.iload_n 1, 1) := by decide +kernel
theorem dX3_commutes_25 : decode mi_X3_commutes.2.1 25 = .ok (.invokevirtual 68, 3) := by decide +kernel
theorem dX3_commutes_28 : decode mi_X3_commutes.2.1 28 = .ok (.istore_n 3, 1) := by decide +kernel
theorem dX3_commutes_29 : decode mi_X3_commutes.2.1 29 = .ok (.aload_n 0, 1) := by decide +kernel
theorem dX3_commutes_30 : decode mi_X3_commutes.2.1 30 = .ok (.getfield 29, 3) := by decide +kernel
theorem dX3_commutes_33 : decode mi_X3_commutes.2.1 33 = .ok (.iload_n 2, 1) := by decide +kernel
theorem dX3_commutes_34 : decode mi_X3_commutes.2.1 34 = .ok (.invokevirtual 68, 3) := by decide +kernel
theorem dX3_commutes_37 : decode mi_X3_commutes.2.1 37 = .ok (.istore 4, 2) := by decide +kernel
theorem dX3_commutes_39 : decode mi_X3_commutes.2.1 39 = .ok (.aload_n 0, 1) := by decide +kernel
theorem dX3_commutes_40 : decode mi_X3_commutes.2.1 40 = .ok (.getfield 25, 3) := by decide +kernel
theorem dX3_commutes_43 : decode mi_X3_commutes.2.1 43 = .ok (.iload_n 3, 1) := by decide +kernel
theorem dX3_commutes_44 : decode mi_X3_commutes.2.1 44 = .ok (.iload 4, 2) := by decide +kernel
theorem dX3_commutes_46 : decode mi_X3_commutes.2.1 46 = .ok (.invokevirtual 71, 3) := by decide +kernel
theorem dX3_commutes_49 : decode mi_X3_commutes.2.1 49 = .ok (.aload_n 0, 1) := by decide +kernel
theorem dX3_commutes_50 : decode mi_X3_commutes.2.1 50 = .ok (.getfield 25, 3) := by decide +kernel
theorem dX3_commutes_53 : decode mi_X3_commutes.2.1 53 = .ok (.iload 4, 2) := by decide +kernel
theorem dX3_commutes_55 : decode mi_X3_commutes.2.1 55 = .ok (.iload_n 3, 1) := by decide +kernel
theorem dX3_commutes_56 : decode mi_X3_commutes.2.1 56 = .ok (.invokevirtual 71, 3) := by decide +kernel
theorem dX3_commutes_59 : decode mi_X3_commutes.2.1 59 = .ok (.if_icmp .eq 5, 3) := by decide +kernel
theorem dX3_commutes_62 : decode mi_X3_commutes.2.1 62 = .ok (.iconst 0, 1) := by decide +kernel
theorem dX3_commutes_63 : decode mi_X3_commutes.2.1 63 = .ok (.ireturn, 1) := by decide +kernel
theorem dX3_commutes_64 : decode mi_X3_commutes.2.1 64 = .ok (.iinc 2 1, 3) := by decide +kernel
theorem dX3_commutes_67 : decode mi_X3_commutes.2.1 67 = .ok (.goto (-52), 3) := by decide +kernel
theorem dX3_commutes_70 : decode mi_X3_commutes.2.1 70 = .ok (.iinc 1 1, 3) := by decide +kernel
theorem dX3_commutes_73 : decode mi_X3_commutes.2.1 73 = .ok (.goto (-71), 3) := by decide +kernel
theorem dX3_commutes_76 : decode mi_X3_commutes.2.1 76 = .ok (.iconst 1, 1) := by decide +kernel
theorem dX3_commutes_77 : decode mi_X3_commutes.2.1 77 = .ok (.ireturn, 1) := by decide +kernel
theorem dX3_countConjugacyClasses_0 : decode mi_X3_countConjugacyClasses.2.1 0 = .ok (.aload_n 0, 1) := by decide +kernel
theorem dX3_countConjugacyClasses_1 : decode mi_X3_countConjugacyClasses.2.1 1 = .ok (.getfield 19, 3) := by decide +kernel
theorem dX3_countConjugacyClasses_4 : decode mi_X3_countConjugacyClasses.2.1 4 = .ok (.invokestatic 55, 3) := by decide +kernel
theorem dX3_countConjugacyClasses_7 : decode mi_X3_countConjugacyClasses.2.1 7 = .ok (.iconst 0, 1) := by decide +kernel
theorem dX3_countConjugacyClasses_8 : decode mi_X3_countConjugacyClasses.2.1 8 = .ok (.istore_n 1, 1) := by decide +kernel
theorem dX3_countConjugacyClasses_9 : decode mi_X3_countConjugacyClasses.2.1 9 = .ok (.iconst 0, 1) := by decide +kernel
theorem dX3_countConjugacyClasses_10 : decode mi_X3_countConjugacyClasses.2.1 10 = .ok (.istore_n 2, 1) := by decide +kernel
theorem dX3_countConjugacyClasses_11 : decode mi_X3_countConjugacyClasses.2.1 11 = .ok (.iload_n 2, 1) := by decide +kernel
theorem dX3_countConjugacyClasses_12 : decode mi_X3_countConjugacyClasses.2.1 12 = .ok (.aload_n 0, 1) := by decide +kernel
theorem dX3_countConjugacyClasses_13 : decode mi_X3_countConjugacyClasses.2.1 13 = .ok (.getfield 33, 3) := by decide +kernel
theorem dX3_countConjugacyClasses_16 : decode mi_X3_countConjugacyClasses.2.1 16 = .ok (.if_icmp .ge 50, 3) := by decide +kernel
theorem dX3_countConjugacyClasses_19 : decode mi_X3_countConjugacyClasses.2.1 19 = .ok (.iload_n 2, 1) := by decide +kernel
theorem dX3_countConjugacyClasses_20 : decode mi_X3_countConjugacyClasses.2.1 20 = .ok (.sipush 300, 3) := by decide +kernel
theorem dX3_countConjugacyClasses_23 : decode mi_X3_countConjugacyClasses.2.1 23 = .ok (.if_icmp .ge 43, 3) := by decide +kernel
theorem dX3_countConjugacyClasses_26 : decode mi_X3_countConjugacyClasses.2.1 26 = .ok (.aload_n 0, 1) := by decide +kernel
theorem dX3_countConjugacyClasses_27 : decode mi_X3_countConjugacyClasses.2.1 27 = .ok (.getfield 15, 3) := by decide +kernel
theorem dX3_countConjugacyClasses_30 : decode mi_X3_countConjugacyClasses.2.1 30 = .ok (.iload_n 2, 1) := by decide +kernel
theorem dX3_countConjugacyClasses_31 : decode mi_X3_countConjugacyClasses.2.1 31 = .ok (.iaload, 1) := by decide +kernel
theorem dX3_countConjugacyClasses_32 : decode mi_X3_countConjugacyClasses.2.1 32 = .ok (.istore_n 3, 1) := by decide +kernel
theorem dX3_countConjugacyClasses_33 : decode mi_X3_countConjugacyClasses.2.1 33 = .ok (.iload_n 3, 1) := by decide +kernel
theorem dX3_countConjugacyClasses_34 : decode mi_X3_countConjugacyClasses.2.1 34 = .ok (.sipush 300, 3) := by decide +kernel
theorem dX3_countConjugacyClasses_37 : decode mi_X3_countConjugacyClasses.2.1 37 = .ok (.invokestatic 37, 3) := by decide +kernel
theorem dX3_countConjugacyClasses_40 : decode mi_X3_countConjugacyClasses.2.1 40 = .ok (.ifCond .eq 20, 3) := by decide +kernel
theorem dX3_countConjugacyClasses_43 : decode mi_X3_countConjugacyClasses.2.1 43 = .ok (.aload_n 0, 1) := by decide +kernel
theorem dX3_countConjugacyClasses_44 : decode mi_X3_countConjugacyClasses.2.1 44 = .ok (.getfield 19, 3) := by decide +kernel
theorem dX3_countConjugacyClasses_47 : decode mi_X3_countConjugacyClasses.2.1 47 = .ok (.iload_n 3, 1) := by decide +kernel
theorem dX3_countConjugacyClasses_48 : decode mi_X3_countConjugacyClasses.2.1 48 = .ok (.baload, 1) := by decide +kernel
theorem dX3_countConjugacyClasses_49 : decode mi_X3_countConjugacyClasses.2.1 49 = .ok (.ifCond .ne 11, 3) := by decide +kernel
theorem dX3_countConjugacyClasses_52 : decode mi_X3_countConjugacyClasses.2.1 52 = .ok (.iinc 1 1, 3) := by decide +kernel
theorem dX3_countConjugacyClasses_55 : decode mi_X3_countConjugacyClasses.2.1 55 = .ok (.aload_n 0, 1) := by decide +kernel
theorem dX3_countConjugacyClasses_56 : decode mi_X3_countConjugacyClasses.2.1 56 = .ok (.iload_n 3, 1) := by decide +kernel
theorem dX3_countConjugacyClasses_57 : decode mi_X3_countConjugacyClasses.2.1 57 = .ok (.invokevirtual 78, 3) := by decide +kernel
theorem dX3_countConjugacyClasses_60 : decode mi_X3_countConjugacyClasses.2.1 60 = .ok (.iinc 2 1, 3) := by decide +kernel
theorem dX3_countConjugacyClasses_63 : decode mi_X3_countConjugacyClasses.2.1 63 = .ok (.goto (-52), 3) := by decide +kernel
theorem dX3_countConjugacyClasses_66 : decode mi_X3_countConjugacyClasses.2.1 66 = .ok (.iload_n 1, 1) := by decide +kernel
theorem dX3_countConjugacyClasses_67 : decode mi_X3_countConjugacyClasses.2.1 67 = .ok (.ireturn, 1) := by decide +kernel
theorem dX3_classify_0 : decode mi_X3_classify.2.1 0 = .ok (.aload_n 0, 1) := by decide +kernel
theorem dX3_classify_1 : decode mi_X3_classify.2.1 1 = .ok (.iconst 0, 1) := by decide +kernel
theorem dX3_classify_2 : decode mi_X3_classify.2.1 2 = .ok (.putfield 81, 3) := by decide +kernel
theorem dX3_classify_5 : decode mi_X3_classify.2.1 5 = .ok (.aload_n 0, 1) := by decide +kernel
theorem dX3_classify_6 : decode mi_X3_classify.2.1 6 = .ok (.iload_n 1, 1) := by decide +kernel
theorem dX3_classify_7 : decode mi_X3_classify.2.1 7 = .ok (.invokevirtual 84, 3) := by decide +kernel
theorem dX3_classify_10 : decode mi_X3_classify.2.1 10 = .ok (.iconst 0, 1) := by decide +kernel
theorem dX3_classify_11 : decode mi_X3_classify.2.1 11 = .ok (.istore_n 2, 1) := by decide +kernel
theorem dX3_classify_12 : decode mi_X3_classify.2.1 12 = .ok (.iload_n 2, 1) := by decide +kernel
theorem dX3_classify_13 : decode mi_X3_classify.2.1 13 = .ok (.aload_n 0, 1) := by decide +kernel
theorem dX3_classify_14 : decode mi_X3_classify.2.1 14 = .ok (.getfield 81, 3) := by decide +kernel
theorem dX3_classify_17 : decode mi_X3_classify.2.1 17 = .ok (.if_icmp .ge 80, 3) := by decide +kernel
theorem dX3_classify_20 : decode mi_X3_classify.2.1 20 = .ok (.iload_n 2, 1) := by decide +kernel
theorem dX3_classify_21 : decode mi_X3_classify.2.1 21 = .ok (.sipush 300, 3) := by decide +kernel
theorem dX3_classify_24 : decode mi_X3_classify.2.1 24 = .ok (.if_icmp .ge 73, 3) := by decide +kernel
theorem dX3_classify_27 : decode mi_X3_classify.2.1 27 = .ok (.iconst 0, 1) := by decide +kernel
theorem dX3_classify_28 : decode mi_X3_classify.2.1 28 = .ok (.istore_n 3, 1) := by decide +kernel
theorem dX3_classify_29 : decode mi_X3_classify.2.1 29 = .ok (.iload_n 3, 1) := by decide +kernel
theorem dX3_classify_30 : decode mi_X3_classify.2.1 30 = .ok (.aload_n 0, 1) := by decide +kernel
theorem dX3_classify_31 : decode mi_X3_classify.2.1 31 = .ok (.getfield 29, 3) := by decide +kernel
theorem dX3_classify_34 : decode mi_X3_classify.2.1 34 = .ok (.getfield 63, 3) := by decide +kernel
theorem dX3_classify_37 : decode mi_X3_classify.2.1 37 = .ok (.if_icmp .ge 54, 3) := by decide +kernel
theorem dX3_classify_40 : decode mi_X3_classify.2.1 40 = .ok (.aload_n 0, 1) := by decide +kernel
theorem dX3_classify_41 : decode mi_X3_classify.2.1 41 = .ok (.getfield 29, 3) := by decide +kernel
theorem dX3_classify_44 : decode mi_X3_classify.2.1 44 = .ok (.iload_n 3, 1) := by decide +kernel
theorem dX3_classify_45 : decode mi_X3_classify.2.1 45 = .ok (.invokevirtual 68, 3) := by decide +kernel
theorem dX3_classify_48 : decode mi_X3_classify.2.1 48 = .ok (.istore 4, 2) := by decide +kernel
theorem dX3_classify_50 : decode mi_X3_classify.2.1 50 = .ok (.aload_n 0, 1) := by decide +kernel
theorem dX3_classify_51 : decode mi_X3_classify.2.1 51 = .ok (.aload_n 0, 1) := by decide +kernel
theorem dX3_classify_52 : decode mi_X3_classify.2.1 52 = .ok (.getfield 25, 3) := by decide +kernel
theorem dX3_classify_55 : decode mi_X3_classify.2.1 55 = .ok (.aload_n 0, 1) := by decide +kernel
theorem dX3_classify_56 : decode mi_X3_classify.2.1 56 = .ok (.getfield 25, 3) := by decide +kernel
theorem dX3_classify_59 : decode mi_X3_classify.2.1 59 = .ok (.iload 4, 2) := by decide +kernel
theorem dX3_classify_61 : decode mi_X3_classify.2.1 61 = .ok (.aload_n 0, 1) := by decide +kernel
theorem dX3_classify_62 : decode mi_X3_classify.2.1 62 = .ok (.getfield 22, 3) := by decide +kernel
theorem dX3_classify_65 : decode mi_X3_classify.2.1 65 = .ok (.iload_n 2, 1) := by decide +kernel
theorem dX3_classify_66 : decode mi_X3_classify.2.1 66 = .ok (.iaload, 1) := by decide +kernel
theorem dX3_classify_67 : decode mi_X3_classify.2.1 67 = .ok (.invokevirtual 71, 3) := by decide +kernel
theorem dX3_classify_70 : decode mi_X3_classify.2.1 70 = .ok (.aload_n 0, 1) := by decide +kernel
theorem dX3_classify_71 : decode mi_X3_classify.2.1 71 = .ok (.getfield 25, 3) := by decide +kernel
theorem dX3_classify_74 : decode mi_X3_classify.2.1 74 = .ok (.iload 4, 2) := by decide +kernel
theorem dX3_classify_76 : decode mi_X3_classify.2.1 76 = .ok (.invokevirtual 87, 3) := by decide +kernel
theorem dX3_classify_79 : decode mi_X3_classify.2.1 79 = .ok (.invokevirtual 71, 3) := by decide +kernel
theorem dX3_classify_82 : decode mi_X3_classify.2.1 82 = .ok (.invokevirtual 84, 3) := by decide +kernel
theorem dX3_classify_85 : decode mi_X3_classify.2.1 85 = .ok (.iinc 3 1, 3) := by decide +kernel
theorem dX3_classify_88 : decode mi_X3_classify.2.1 88 = .ok (.goto (-59), 3) := by decide +kernel
theorem dX3_classify_91 : decode mi_X3_classify.2.1 91 = .ok (.iinc 2 1, 3) := by decide +kernel
theorem dX3_classify_94 : decode mi_X3_classify.2.1 94 = .ok (.goto (-82), 3) := by decide +kernel
theorem dX3_classify_97 : decode mi_X3_classify.2.1 97 = .ok (.return_, 1) := by decide +kernel
theorem dX3_admitToClass_0 : decode mi_X3_admitToClass.2.1 0 = .ok (.iload_n 1, 1) := by decide +kernel
theorem dX3_admitToClass_1 : decode mi_X3_admitToClass.2.1 1 = .ok (.sipush 300, 3) := by decide +kernel
theorem dX3_admitToClass_4 : decode mi_X3_admitToClass.2.1 4 = .ok (.invokestatic 37, 3) := by decide +kernel
theorem dX3_admitToClass_7 : decode mi_X3_admitToClass.2.1 7 = .ok (.ifCond .eq 52, 3) := by decide +kernel
theorem dX3_admitToClass_10 : decode mi_X3_admitToClass.2.1 10 = .ok (.aload_n 0, 1) := by decide +kernel
theorem dX3_admitToClass_11 : decode mi_X3_admitToClass.2.1 11 = .ok (.getfield 19, 3) := by decide +kernel
theorem dX3_admitToClass_14 : decode mi_X3_admitToClass.2.1 14 = .ok (.iload_n 1, 1) := by decide +kernel
theorem dX3_admitToClass_15 : decode mi_X3_admitToClass.2.1 15 = .ok (.baload, 1) := by decide +kernel
theorem dX3_admitToClass_16 : decode mi_X3_admitToClass.2.1 16 = .ok (.ifCond .ne 43, 3) := by decide +kernel
theorem dX3_admitToClass_19 : decode mi_X3_admitToClass.2.1 19 = .ok (.aload_n 0, 1) := by decide +kernel
theorem dX3_admitToClass_20 : decode mi_X3_admitToClass.2.1 20 = .ok (.getfield 81, 3) := by decide +kernel
theorem dX3_admitToClass_23 : decode mi_X3_admitToClass.2.1 23 = .ok (.sipush 300, 3) := by decide +kernel
theorem dX3_admitToClass_26 : decode mi_X3_admitToClass.2.1 26 = .ok (.invokestatic 37, 3) := by decide +kernel
theorem dX3_admitToClass_29 : decode mi_X3_admitToClass.2.1 29 = .ok (.ifCond .eq 30, 3) := by decide +kernel
theorem dX3_admitToClass_32 : decode mi_X3_admitToClass.2.1 32 = .ok (.aload_n 0, 1) := by decide +kernel
theorem dX3_admitToClass_33 : decode mi_X3_admitToClass.2.1 33 = .ok (.getfield 19, 3) := by decide +kernel
theorem dX3_admitToClass_36 : decode mi_X3_admitToClass.2.1 36 = .ok (.iload_n 1, 1) := by decide +kernel
theorem dX3_admitToClass_37 : decode mi_X3_admitToClass.2.1 37 = .ok (.iconst 1, 1) := by decide +kernel
theorem dX3_admitToClass_38 : decode mi_X3_admitToClass.2.1 38 = .ok (.bastore, 1) := by decide +kernel
theorem dX3_admitToClass_39 : decode mi_X3_admitToClass.2.1 39 = .ok (.aload_n 0, 1) := by decide +kernel
theorem dX3_admitToClass_40 : decode mi_X3_admitToClass.2.1 40 = .ok (.getfield 22, 3) := by decide +kernel
theorem dX3_admitToClass_43 : decode mi_X3_admitToClass.2.1 43 = .ok (.aload_n 0, 1) := by decide +kernel
theorem dX3_admitToClass_44 : decode mi_X3_admitToClass.2.1 44 = .ok (.getfield 81, 3) := by decide +kernel
theorem dX3_admitToClass_47 : decode mi_X3_admitToClass.2.1 47 = .ok (.iload_n 1, 1) := by decide +kernel
theorem dX3_admitToClass_48 : decode mi_X3_admitToClass.2.1 48 = .ok (.iastore, 1) := by decide +kernel
theorem dX3_admitToClass_49 : decode mi_X3_admitToClass.2.1 49 = .ok (.aload_n 0, 1) := by decide +kernel
theorem dX3_admitToClass_50 : decode mi_X3_admitToClass.2.1 50 = .ok (.dup, 1) := by decide +kernel
theorem dX3_admitToClass_51 : decode mi_X3_admitToClass.2.1 51 = .ok (.getfield 81, 3) := by decide +kernel
theorem dX3_admitToClass_54 : decode mi_X3_admitToClass.2.1 54 = .ok (.iconst 1, 1) := by decide +kernel
theorem dX3_admitToClass_55 : decode mi_X3_admitToClass.2.1 55 = .ok (.iadd, 1) := by decide +kernel
theorem dX3_admitToClass_56 : decode mi_X3_admitToClass.2.1 56 = .ok (.putfield 81, 3) := by decide +kernel
theorem dX3_admitToClass_59 : decode mi_X3_admitToClass.2.1 59 = .ok (.return_, 1) := by decide +kernel
theorem dX4_isEmpty_0 : decode mi_X4_isEmpty.2.1 0 = .ok (.aload_n 0, 1) := by decide +kernel
theorem dX4_isEmpty_1 : decode mi_X4_isEmpty.2.1 1 = .ok (.getfield 16, 3) := by decide +kernel
theorem dX4_isEmpty_4 : decode mi_X4_isEmpty.2.1 4 = .ok (.ifCond .gt 7, 3) := by decide +kernel
theorem dX4_isEmpty_7 : decode mi_X4_isEmpty.2.1 7 = .ok (.iconst 1, 1) := by decide +kernel
theorem dX4_isEmpty_8 : decode mi_X4_isEmpty.2.1 8 = .ok (.goto 4, 3) := by decide +kernel
theorem dX4_isEmpty_11 : decode mi_X4_isEmpty.2.1 11 = .ok (.iconst 0, 1) := by decide +kernel
theorem dX4_isEmpty_12 : decode mi_X4_isEmpty.2.1 12 = .ok (.ireturn, 1) := by decide +kernel
theorem dX4_save_0 : decode mi_X4_save.2.1 0 = .ok (.aload_n 0, 1) := by decide +kernel
theorem dX4_save_1 : decode mi_X4_save.2.1 1 = .ok (.getfield 16, 3) := by decide +kernel
theorem dX4_save_4 : decode mi_X4_save.2.1 4 = .ok (.iconst 4, 1) := by decide +kernel
theorem dX4_save_5 : decode mi_X4_save.2.1 5 = .ok (.if_icmp .lt 7, 3) := by decide +kernel
theorem dX4_save_8 : decode mi_X4_save.2.1 8 = .ok (.aload_n 0, 1) := by decide +kernel
theorem dX4_save_9 : decode mi_X4_save.2.1 9 = .ok (.invokevirtual 20, 3) := by decide +kernel
theorem dX4_save_12 : decode mi_X4_save.2.1 12 = .ok (.aload_n 0, 1) := by decide +kernel
theorem dX4_save_13 : decode mi_X4_save.2.1 13 = .ok (.getfield 16, 3) := by decide +kernel
theorem dX4_save_16 : decode mi_X4_save.2.1 16 = .ok (.iconst 4, 1) := by decide +kernel
theorem dX4_save_17 : decode mi_X4_save.2.1 17 = .ok (.invokestatic 23, 3) := by decide +kernel
theorem dX4_save_20 : decode mi_X4_save.2.1 20 = .ok (.ifCond .eq 27, 3) := by decide +kernel
theorem dX4_save_23 : decode mi_X4_save.2.1 23 = .ok (.aload_n 0, 1) := by decide +kernel
theorem dX4_save_24 : decode mi_X4_save.2.1 24 = .ok (.getfield 13, 3) := by decide +kernel
theorem dX4_save_27 : decode mi_X4_save.2.1 27 = .ok (.aload_n 0, 1) := by decide +kernel
theorem dX4_save_28 : decode mi_X4_save.2.1 28 = .ok (.getfield 16, 3) := by decide +kernel
theorem dX4_save_31 : decode mi_X4_save.2.1 31 = .ok (.aaload, 1) := by decide +kernel
theorem dX4_save_32 : decode mi_X4_save.2.1 32 = .ok (.aload_n 1, 1) := by decide +kernel
theorem dX4_save_33 : decode mi_X4_save.2.1 33 = .ok (.aload_n 2, 1) := by decide +kernel
theorem dX4_save_34 : decode mi_X4_save.2.1 34 = .ok (.invokestatic 27, 3) := by decide +kernel
theorem dX4_save_37 : decode mi_X4_save.2.1 37 = .ok (.aload_n 0, 1) := by decide +kernel
theorem dX4_save_38 : decode mi_X4_save.2.1 38 = .ok (.dup, 1) := by decide +kernel
theorem dX4_save_39 : decode mi_X4_save.2.1 39 = .ok (.getfield 16, 3) := by decide +kernel
theorem dX4_save_42 : decode mi_X4_save.2.1 42 = .ok (.iconst 1, 1) := by decide +kernel
theorem dX4_save_43 : decode mi_X4_save.2.1 43 = .ok (.iadd, 1) := by decide +kernel
theorem dX4_save_44 : decode mi_X4_save.2.1 44 = .ok (.putfield 16, 3) := by decide +kernel
theorem dX4_save_47 : decode mi_X4_save.2.1 47 = .ok (.return_, 1) := by decide +kernel
theorem dX4_restore_0 : decode mi_X4_restore.2.1 0 = .ok (.aload_n 0, 1) := by decide +kernel
theorem dX4_restore_1 : decode mi_X4_restore.2.1 1 = .ok (.getfield 16, 3) := by decide +kernel
theorem dX4_restore_4 : decode mi_X4_restore.2.1 4 = .ok (.iconst 1, 1) := by decide +kernel
theorem dX4_restore_5 : decode mi_X4_restore.2.1 5 = .ok (.isub, 1) := by decide +kernel
theorem dX4_restore_6 : decode mi_X4_restore.2.1 6 = .ok (.iconst 4, 1) := by decide +kernel
theorem dX4_restore_7 : decode mi_X4_restore.2.1 7 = .ok (.invokestatic 23, 3) := by decide +kernel
theorem dX4_restore_10 : decode mi_X4_restore.2.1 10 = .ok (.ifCond .eq 27, 3) := by decide +kernel
theorem dX4_restore_13 : decode mi_X4_restore.2.1 13 = .ok (.aload_n 0, 1) := by decide +kernel
theorem dX4_restore_14 : decode mi_X4_restore.2.1 14 = .ok (.dup, 1) := by decide +kernel
theorem dX4_restore_15 : decode mi_X4_restore.2.1 15 = .ok (.getfield 16, 3) := by decide +kernel
theorem dX4_restore_18 : decode mi_X4_restore.2.1 18 = .ok (.iconst 1, 1) := by decide +kernel
theorem dX4_restore_19 : decode mi_X4_restore.2.1 19 = .ok (.isub, 1) := by decide +kernel
theorem dX4_restore_20 : decode mi_X4_restore.2.1 20 = .ok (.putfield 16, 3) := by decide +kernel
theorem dX4_restore_23 : decode mi_X4_restore.2.1 23 = .ok (.aload_n 0, 1) := by decide +kernel
theorem dX4_restore_24 : decode mi_X4_restore.2.1 24 = .ok (.getfield 13, 3) := by decide +kernel
theorem dX4_restore_27 : decode mi_X4_restore.2.1 27 = .ok (.aload_n 0, 1) := by decide +kernel
theorem dX4_restore_28 : decode mi_X4_restore.2.1 28 = .ok (.getfield 16, 3) := by decide +kernel
theorem dX4_restore_31 : decode mi_X4_restore.2.1 31 = .ok (.aaload, 1) := by decide +kernel
theorem dX4_restore_32 : decode mi_X4_restore.2.1 32 = .ok (.aload_n 1, 1) := by decide +kernel
theorem dX4_restore_33 : decode mi_X4_restore.2.1 33 = .ok (.aload_n 2, 1) := by decide +kernel
theorem dX4_restore_34 : decode mi_X4_restore.2.1 34 = .ok (.invokestatic 31, 3) := by decide +kernel
theorem dX4_restore_37 : decode mi_X4_restore.2.1 37 = .ok (.return_, 1) := by decide +kernel
theorem dX4_forgetOldest_0 : decode mi_X4_forgetOldest.2.1 0 = .ok (.iconst 1, 1) := by decide +kernel
theorem dX4_forgetOldest_1 : decode mi_X4_forgetOldest.2.1 1 = .ok (.istore_n 1, 1) := by decide +kernel
theorem dX4_forgetOldest_2 : decode mi_X4_forgetOldest.2.1 2 = .ok (.iload_n 1, 1) := by decide +kernel
theorem dX4_forgetOldest_3 : decode mi_X4_forgetOldest.2.1 3 = .ok (.iconst 4, 1) := by decide +kernel
theorem dX4_forgetOldest_4 : decode mi_X4_forgetOldest.2.1 4 = .ok (.if_icmp .ge 41, 3) := by decide +kernel
theorem dX4_forgetOldest_7 : decode mi_X4_forgetOldest.2.1 7 = .ok (.iconst 0, 1) := by decide +kernel
theorem dX4_forgetOldest_8 : decode mi_X4_forgetOldest.2.1 8 = .ok (.istore_n 2, 1) := by decide +kernel
theorem dX4_forgetOldest_9 : decode mi_X4_forgetOldest.2.1 9 = .ok (.iload_n 2, 1) := by decide +kernel
theorem dX4_forgetOldest_10 : decode mi_X4_forgetOldest.2.1 10 = .ok (.bipush 7, 2) := by decide +kernel
theorem dX4_forgetOldest_12 : decode mi_X4_forgetOldest.2.1 12 = .ok (.if_icmp .ge 27, 3) := by decide +kernel
theorem dX4_forgetOldest_15 : decode mi_X4_forgetOldest.2.1 15 = .ok (.aload_n 0, 1) := by decide +kernel
theorem dX4_forgetOldest_16 : decode mi_X4_forgetOldest.2.1 16 = .ok (.getfield 13, 3) := by decide +kernel
theorem dX4_forgetOldest_19 : decode mi_X4_forgetOldest.2.1 19 = .ok (.iload_n 1, 1) := by decide +kernel
theorem dX4_forgetOldest_20 : decode mi_X4_forgetOldest.2.1 20 = .ok (.iconst 1, 1) := by decide +kernel
theorem dX4_forgetOldest_21 : decode mi_X4_forgetOldest.2.1 21 = .ok (.isub, 1) := by decide +kernel
theorem dX4_forgetOldest_22 : decode mi_X4_forgetOldest.2.1 22 = .ok (.aaload, 1) := by decide +kernel
theorem dX4_forgetOldest_23 : decode mi_X4_forgetOldest.2.1 23 = .ok (.iload_n 2, 1) := by decide +kernel
theorem dX4_forgetOldest_24 : decode mi_X4_forgetOldest.2.1 24 = .ok (.aload_n 0, 1) := by decide +kernel
theorem dX4_forgetOldest_25 : decode mi_X4_forgetOldest.2.1 25 = .ok (.getfield 13, 3) := by decide +kernel
theorem dX4_forgetOldest_28 : decode mi_X4_forgetOldest.2.1 28 = .ok (.iload_n 1, 1) := by decide +kernel
theorem dX4_forgetOldest_29 : decode mi_X4_forgetOldest.2.1 29 = .ok (.aaload, 1) := by decide +kernel
theorem dX4_forgetOldest_30 : decode mi_X4_forgetOldest.2.1 30 = .ok (.iload_n 2, 1) := by decide +kernel
theorem dX4_forgetOldest_31 : decode mi_X4_forgetOldest.2.1 31 = .ok (.iaload, 1) := by decide +kernel
theorem dX4_forgetOldest_32 : decode mi_X4_forgetOldest.2.1 32 = .ok (.iastore, 1) := by decide +kernel
theorem dX4_forgetOldest_33 : decode mi_X4_forgetOldest.2.1 33 = .ok (.iinc 2 1, 3) := by decide +kernel
theorem dX4_forgetOldest_36 : decode mi_X4_forgetOldest.2.1 36 = .ok (.goto (-27), 3) := by decide +kernel
theorem dX4_forgetOldest_39 : decode mi_X4_forgetOldest.2.1 39 = .ok (.iinc 1 1, 3) := by decide +kernel
theorem dX4_forgetOldest_42 : decode mi_X4_forgetOldest.2.1 42 = .ok (.goto (-40), 3) := by decide +kernel
theorem dX4_forgetOldest_45 : decode mi_X4_forgetOldest.2.1 45 = .ok (.aload_n 0, 1) := by decide +kernel
theorem dX4_forgetOldest_46 : decode mi_X4_forgetOldest.2.1 46 = .ok (.iconst 3, 1) := by decide +kernel
theorem dX4_forgetOldest_47 : decode mi_X4_forgetOldest.2.1 47 = .ok (.putfield 16, 3) := by decide +kernel
theorem dX4_forgetOldest_50 : decode mi_X4_forgetOldest.2.1 50 = .ok (.return_, 1) := by decide +kernel
theorem dX4_write_0 : decode mi_X4_write.2.1 0 = .ok (.aload_n 0, 1) := by decide +kernel
theorem dX4_write_1 : decode mi_X4_write.2.1 1 = .ok (.arraylength, 1) := by decide +kernel
theorem dX4_write_2 : decode mi_X4_write.2.1 2 = .ok (.bipush 7, 2) := by decide +kernel
theorem dX4_write_4 : decode mi_X4_write.2.1 4 = .ok (.if_icmp .ge 4, 3) := by decide +kernel
theorem dX4_write_7 : decode mi_X4_write.2.1 7 = .ok (.return_, 1) := by decide +kernel
theorem dX4_write_8 : decode mi_X4_write.2.1 8 = .ok (.aload_n 0, 1) := by decide +kernel
theorem dX4_write_9 : decode mi_X4_write.2.1 9 = .ok (.iconst 0, 1) := by decide +kernel
theorem dX4_write_10 : decode mi_X4_write.2.1 10 = .ok (.aload_n 1, 1) := by decide +kernel
theorem dX4_write_11 : decode mi_X4_write.2.1 11 = .ok (.getfield 34, 3) := by decide +kernel
theorem dX4_write_14 : decode mi_X4_write.2.1 14 = .ok (.iastore, 1) := by decide +kernel
theorem dX4_write_15 : decode mi_X4_write.2.1 15 = .ok (.aload_n 0, 1) := by decide +kernel
theorem dX4_write_16 : decode mi_X4_write.2.1 16 = .ok (.iconst 1, 1) := by decide +kernel
theorem dX4_write_17 : decode mi_X4_write.2.1 17 = .ok (.aload_n 1, 1) := by decide +kernel
theorem dX4_write_18 : decode mi_X4_write.2.1 18 = .ok (.getfield 39, 3) := by decide +kernel
theorem dX4_write_21 : decode mi_X4_write.2.1 21 = .ok (.iastore, 1) := by decide +kernel
theorem dX4_write_22 : decode mi_X4_write.2.1 22 = .ok (.aload_n 0, 1) := by decide +kernel
theorem dX4_write_23 : decode mi_X4_write.2.1 23 = .ok (.iconst 2, 1) := by decide +kernel
theorem dX4_write_24 : decode mi_X4_write.2.1 24 = .ok (.aload_n 2, 1) := by decide +kernel
theorem dX4_write_25 : decode mi_X4_write.2.1 25 = .ok (.getfield 42, 3) := by decide +kernel
theorem dX4_write_28 : decode mi_X4_write.2.1 28 = .ok (.iastore, 1) := by decide +kernel
theorem dX4_write_29 : decode mi_X4_write.2.1 29 = .ok (.iconst 0, 1) := by decide +kernel
theorem dX4_write_30 : decode mi_X4_write.2.1 30 = .ok (.istore_n 3, 1) := by decide +kernel
theorem dX4_write_31 : decode mi_X4_write.2.1 31 = .ok (.iload_n 3, 1) := by decide +kernel
theorem dX4_write_32 : decode mi_X4_write.2.1 32 = .ok (.iconst 4, 1) := by decide +kernel
theorem dX4_write_33 : decode mi_X4_write.2.1 33 = .ok (.if_icmp .ge 19, 3) := by decide +kernel
theorem dX4_write_36 : decode mi_X4_write.2.1 36 = .ok (.aload_n 0, 1) := by decide +kernel
theorem dX4_write_37 : decode mi_X4_write.2.1 37 = .ok (.iconst 3, 1) := by decide +kernel
theorem dX4_write_38 : decode mi_X4_write.2.1 38 = .ok (.iload_n 3, 1) := by decide +kernel
theorem dX4_write_39 : decode mi_X4_write.2.1 39 = .ok (.iadd, 1) := by decide +kernel
theorem dX4_write_40 : decode mi_X4_write.2.1 40 = .ok (.aload_n 2, 1) := by decide +kernel
theorem dX4_write_41 : decode mi_X4_write.2.1 41 = .ok (.iload_n 3, 1) := by decide +kernel
theorem dX4_write_42 : decode mi_X4_write.2.1 42 = .ok (.invokevirtual 47, 3) := by decide +kernel
theorem dX4_write_45 : decode mi_X4_write.2.1 45 = .ok (.iastore, 1) := by decide +kernel
theorem dX4_write_46 : decode mi_X4_write.2.1 46 = .ok (.iinc 3 1, 3) := by decide +kernel
theorem dX4_write_49 : decode mi_X4_write.2.1 49 = .ok (.goto (-18), 3) := by decide +kernel
theorem dX4_write_52 : decode mi_X4_write.2.1 52 = .ok (.return_, 1) := by decide +kernel
theorem dX4_read_0 : decode mi_X4_read.2.1 0 = .ok (.aload_n 0, 1) := by decide +kernel
theorem dX4_read_1 : decode mi_X4_read.2.1 1 = .ok (.arraylength, 1) := by decide +kernel
theorem dX4_read_2 : decode mi_X4_read.2.1 2 = .ok (.bipush 7, 2) := by decide +kernel
theorem dX4_read_4 : decode mi_X4_read.2.1 4 = .ok (.if_icmp .ge 4, 3) := by decide +kernel
theorem dX4_read_7 : decode mi_X4_read.2.1 7 = .ok (.return_, 1) := by decide +kernel
theorem dX4_read_8 : decode mi_X4_read.2.1 8 = .ok (.aload_n 1, 1) := by decide +kernel
theorem dX4_read_9 : decode mi_X4_read.2.1 9 = .ok (.aload_n 0, 1) := by decide +kernel
theorem dX4_read_10 : decode mi_X4_read.2.1 10 = .ok (.iconst 0, 1) := by decide +kernel
theorem dX4_read_11 : decode mi_X4_read.2.1 11 = .ok (.iaload, 1) := by decide +kernel
theorem dX4_read_12 : decode mi_X4_read.2.1 12 = .ok (.aload_n 0, 1) := by decide +kernel
theorem dX4_read_13 : decode mi_X4_read.2.1 13 = .ok (.iconst 1, 1) := by decide +kernel
theorem dX4_read_14 : decode mi_X4_read.2.1 14 = .ok (.iaload, 1) := by decide +kernel
theorem dX4_read_15 : decode mi_X4_read.2.1 15 = .ok (.invokevirtual 51, 3) := by decide +kernel
theorem dX4_read_18 : decode mi_X4_read.2.1 18 = .ok (.aload_n 2, 1) := by decide +kernel
theorem dX4_read_19 : decode mi_X4_read.2.1 19 = .ok (.aload_n 0, 1) := by decide +kernel
theorem dX4_read_20 : decode mi_X4_read.2.1 20 = .ok (.iconst 2, 1) := by decide +kernel
theorem dX4_read_21 : decode mi_X4_read.2.1 21 = .ok (.iaload, 1) := by decide +kernel
theorem dX4_read_22 : decode mi_X4_read.2.1 22 = .ok (.putfield 42, 3) := by decide +kernel
theorem dX4_read_25 : decode mi_X4_read.2.1 25 = .ok (.iconst 0, 1) := by decide +kernel
theorem dX4_read_26 : decode mi_X4_read.2.1 26 = .ok (.istore_n 3, 1) := by decide +kernel
theorem dX4_read_27 : decode mi_X4_read.2.1 27 = .ok (.iload_n 3, 1) := by decide +kernel
theorem dX4_read_28 : decode mi_X4_read.2.1 28 = .ok (.iconst 4, 1) := by decide +kernel
theorem dX4_read_29 : decode mi_X4_read.2.1 29 = .ok (.if_icmp .ge 19, 3) := by decide +kernel
theorem dX4_read_32 : decode mi_X4_read.2.1 32 = .ok (.aload_n 2, 1) := by decide +kernel
theorem dX4_read_33 : decode mi_X4_read.2.1 33 = .ok (.iload_n 3, 1) := by decide +kernel
theorem dX4_read_34 : decode mi_X4_read.2.1 34 = .ok (.aload_n 0, 1) := by decide +kernel
theorem dX4_read_35 : decode mi_X4_read.2.1 35 = .ok (.iconst 3, 1) := by decide +kernel
theorem dX4_read_36 : decode mi_X4_read.2.1 36 = .ok (.iload_n 3, 1) := by decide +kernel
theorem dX4_read_37 : decode mi_X4_read.2.1 37 = .ok (.iadd, 1) := by decide +kernel
theorem dX4_read_38 : decode mi_X4_read.2.1 38 = .ok (.iaload, 1) := by decide +kernel
theorem dX4_read_39 : decode mi_X4_read.2.1 39 = .ok (.invokevirtual 55, 3) := by decide +kernel
theorem dX4_read_42 : decode mi_X4_read.2.1 42 = .ok (.iinc 3 1, 3) := by decide +kernel
theorem dX4_read_45 : decode mi_X4_read.2.1 45 = .ok (.goto (-18), 3) := by decide +kernel
theorem dX4_read_48 : decode mi_X4_read.2.1 48 = .ok (.return_, 1) := by decide +kernel
theorem dX5_choose_0 : decode mi_X5_choose.2.1 0 = .ok (.aload_n 0, 1) := by decide +kernel
theorem dX5_choose_1 : decode mi_X5_choose.2.1 1 = .ok (.iload_n 1, 1) := by decide +kernel
theorem dX5_choose_2 : decode mi_X5_choose.2.1 2 = .ok (.putfield 9, 3) := by decide +kernel
theorem dX5_choose_5 : decode mi_X5_choose.2.1 5 = .ok (.aload_n 0, 1) := by decide +kernel
theorem dX5_choose_6 : decode mi_X5_choose.2.1 6 = .ok (.iload_n 2, 1) := by decide +kernel
theorem dX5_choose_7 : decode mi_X5_choose.2.1 7 = .ok (.putfield 15, 3) := by decide +kernel
theorem dX5_choose_10 : decode mi_X5_choose.2.1 10 = .ok (.return_, 1) := by decide +kernel
theorem dX5_turns_0 : decode mi_X5_turns.2.1 0 = .ok (.aload_n 0, 1) := by decide +kernel
theorem dX5_turns_1 : decode mi_X5_turns.2.1 1 = .ok (.getfield 9, 3) := by decide +kernel
theorem dX5_turns_4 : decode mi_X5_turns.2.1 4 = .ok (.iconst 1, 1) := by decide +kernel
theorem dX5_turns_5 : decode mi_X5_turns.2.1 5 = .ok (.if_icmp .ne 8, 3) := by decide +kernel
theorem dX5_turns_8 : decode mi_X5_turns.2.1 8 = .ok (.bipush 6, 2) := by decide +kernel
theorem dX5_turns_10 : decode mi_X5_turns.2.1 10 = .ok (.goto 4, 3) := by decide +kernel
theorem dX5_turns_13 : decode mi_X5_turns.2.1 13 = .ok (.iconst 4, 1) := by decide +kernel
theorem dX5_turns_14 : decode mi_X5_turns.2.1 14 = .ok (.ireturn, 1) := by decide +kernel
theorem dX5_parts_0 : decode mi_X5_parts.2.1 0 = .ok (.iconst 2, 1) := by decide +kernel
theorem dX5_parts_1 : decode mi_X5_parts.2.1 1 = .ok (.aload_n 0, 1) := by decide +kernel
theorem dX5_parts_2 : decode mi_X5_parts.2.1 2 = .ok (.invokevirtual 18, 3) := by decide +kernel
theorem dX5_parts_5 : decode mi_X5_parts.2.1 5 = .ok (.imul, 1) := by decide +kernel
theorem dX5_parts_6 : decode mi_X5_parts.2.1 6 = .ok (.ireturn, 1) := by decide +kernel
theorem dX5_cellCount_0 : decode mi_X5_cellCount.2.1 0 = .ok (.aload_n 0, 1) := by decide +kernel
theorem dX5_cellCount_1 : decode mi_X5_cellCount.2.1 1 = .ok (.getfield 15, 3) := by decide +kernel
theorem dX5_cellCount_4 : decode mi_X5_cellCount.2.1 4 = .ok (.aload_n 0, 1) := by decide +kernel
theorem dX5_cellCount_5 : decode mi_X5_cellCount.2.1 5 = .ok (.getfield 15, 3) := by decide +kernel
theorem dX5_cellCount_8 : decode mi_X5_cellCount.2.1 8 = .ok (.imul, 1) := by decide +kernel
theorem dX5_cellCount_9 : decode mi_X5_cellCount.2.1 9 = .ok (.ireturn, 1) := by decide +kernel
theorem dX5_codes_0 : decode mi_X5_codes.2.1 0 = .ok (.aload_n 0, 1) := by decide +kernel
theorem dX5_codes_1 : decode mi_X5_codes.2.1 1 = .ok (.invokevirtual 22, 3) := by decide +kernel
theorem dX5_codes_4 : decode mi_X5_codes.2.1 4 = .ok (.aload_n 0, 1) := by decide +kernel
theorem dX5_codes_5 : decode mi_X5_codes.2.1 5 = .ok (.invokevirtual 25, 3) := by decide +kernel
theorem dX5_codes_8 : decode mi_X5_codes.2.1 8 = .ok (.imul, 1) := by decide +kernel
theorem dX5_codes_9 : decode mi_X5_codes.2.1 9 = .ok (.ireturn, 1) := by decide +kernel
theorem dX5_hasCell_0 : decode mi_X5_hasCell.2.1 0 = .ok (.iload_n 1, 1) := by decide +kernel
theorem dX5_hasCell_1 : decode mi_X5_hasCell.2.1 1 = .ok (.aload_n 0, 1) := by decide +kernel
theorem dX5_hasCell_2 : decode mi_X5_hasCell.2.1 2 = .ok (.getfield 15, 3) := by decide +kernel
theorem dX5_hasCell_5 : decode mi_X5_hasCell.2.1 5 = .ok (.invokestatic 28, 3) := by decide +kernel
theorem dX5_hasCell_8 : decode mi_X5_hasCell.2.1 8 = .ok (.ifCond .eq 18, 3) := by decide +kernel
theorem dX5_hasCell_11 : decode mi_X5_hasCell.2.1 11 = .ok (.iload_n 2, 1) := by decide +kernel
theorem dX5_hasCell_12 : decode mi_X5_hasCell.2.1 12 = .ok (.aload_n 0, 1) := by decide +kernel
theorem dX5_hasCell_13 : decode mi_X5_hasCell.2.1 13 = .ok (.getfield 15, 3) := by decide +kernel
theorem dX5_hasCell_16 : decode mi_X5_hasCell.2.1 16 = .ok (.invokestatic 28, 3) := by decide +kernel
theorem dX5_hasCell_19 : decode mi_X5_hasCell.2.1 19 = .ok (.ifCond .eq 7, 3) := by decide +kernel
theorem dX5_hasCell_22 : decode mi_X5_hasCell.2.1 22 = .ok (.iconst 1, 1) := by decide +kernel
theorem dX5_hasCell_23 : decode mi_X5_hasCell.2.1 23 = .ok (.goto 4, 3) := by decide +kernel
theorem dX5_hasCell_26 : decode mi_X5_hasCell.2.1 26 = .ok (.iconst 0, 1) := by decide +kernel
theorem dX5_hasCell_27 : decode mi_X5_hasCell.2.1 27 = .ok (.ireturn, 1) := by decide +kernel
theorem dX5_hasMovement_0 : decode mi_X5_hasMovement.2.1 0 = .ok (.iload_n 1, 1) := by decide +kernel
theorem dX5_hasMovement_1 : decode mi_X5_hasMovement.2.1 1 = .ok (.aload_n 0, 1) := by decide +kernel
theorem dX5_hasMovement_2 : decode mi_X5_hasMovement.2.1 2 = .ok (.invokevirtual 22, 3) := by decide +kernel
theorem dX5_hasMovement_5 : decode mi_X5_hasMovement.2.1 5 = .ok (.invokestatic 28, 3) := by decide +kernel
theorem dX5_hasMovement_8 : decode mi_X5_hasMovement.2.1 8 = .ok (.ifCond .eq 16, 3) := by decide +kernel
theorem dX5_hasMovement_11 : decode mi_X5_hasMovement.2.1 11 = .ok (.aload_n 0, 1) := by decide +kernel
theorem dX5_hasMovement_12 : decode mi_X5_hasMovement.2.1 12 = .ok (.iload_n 2, 1) := by decide +kernel
theorem dX5_hasMovement_13 : decode mi_X5_hasMovement.2.1 13 = .ok (.iload_n 3, 1) := by decide +kernel
theorem dX5_hasMovement_14 : decode mi_X5_hasMovement.2.1 14 = .ok (.invokevirtual 32, 3) := by decide +kernel
theorem dX5_hasMovement_17 : decode mi_X5_hasMovement.2.1 17 = .ok (.ifCond .eq 7, 3) := by decide +kernel
theorem dX5_hasMovement_20 : decode mi_X5_hasMovement.2.1 20 = .ok (.iconst 1, 1) := by decide +kernel
theorem dX5_hasMovement_21 : decode mi_X5_hasMovement.2.1 21 = .ok (.goto 4, 3) := by decide +kernel
theorem dX5_hasMovement_24 : decode mi_X5_hasMovement.2.1 24 = .ok (.iconst 0, 1) := by decide +kernel
theorem dX5_hasMovement_25 : decode mi_X5_hasMovement.2.1 25 = .ok (.ireturn, 1) := by decide +kernel
theorem dX5_hasCode_0 : decode mi_X5_hasCode.2.1 0 = .ok (.iload_n 1, 1) := by decide +kernel
theorem dX5_hasCode_1 : decode mi_X5_hasCode.2.1 1 = .ok (.aload_n 0, 1) := by decide +kernel
theorem dX5_hasCode_2 : decode mi_X5_hasCode.2.1 2 = .ok (.invokevirtual 35, 3) := by decide +kernel
theorem dX5_hasCode_5 : decode mi_X5_hasCode.2.1 5 = .ok (.invokestatic 28, 3) := by decide +kernel
