theorem dX7_directions_0 : decode mi_X7_directions.2.1 0 = .ok (.aload_n 0, 1) := by decide +kernel
theorem dX7_directions_1 : decode mi_X7_directions.2.1 1 = .ok (.iconst 1, 1) := by decide +kernel
theorem dX7_directions_2 : decode mi_X7_directions.2.1 2 = .ok (.invokevirtual 126, 3) := by decide +kernel
theorem dX7_directions_5 : decode mi_X7_directions.2.1 5 = .ok (.invokestatic 130, 3) := by decide +kernel
theorem dX7_directions_8 : decode mi_X7_directions.2.1 8 = .ok (.ireturn, 1) := by decide +kernel
theorem dX7_mirrorDirections_0 : decode mi_X7_mirrorDirections.2.1 0 = .ok (.aload_n 0, 1) := by decide +kernel
theorem dX7_mirrorDirections_1 : decode mi_X7_mirrorDirections.2.1 1 = .ok (.invokevirtual 139, 3) := by decide +kernel
theorem dX7_mirrorDirections_4 : decode mi_X7_mirrorDirections.2.1 4 = .ok (.ireturn, 1) := by decide +kernel
theorem dX7_isLatticeVector_0 : decode mi_X7_isLatticeVector.2.1 0 = .ok (.aload_n 0, 1) := by decide +kernel
theorem dX7_isLatticeVector_1 : decode mi_X7_isLatticeVector.2.1 1 = .ok (.getfield 22, 3) := by decide +kernel
theorem dX7_isLatticeVector_4 : decode mi_X7_isLatticeVector.2.1 4 = .ok (.aload_n 0, 1) := by decide +kernel
theorem dX7_isLatticeVector_5 : decode mi_X7_isLatticeVector.2.1 5 = .ok (.iconst 0, 1) := by decide +kernel
theorem dX7_isLatticeVector_6 : decode mi_X7_isLatticeVector.2.1 6 = .ok (.iload_n 1, 1) := by decide +kernel
theorem dX7_isLatticeVector_7 : decode mi_X7_isLatticeVector.2.1 7 = .ok (.iload_n 2, 1) := by decide +kernel
theorem dX7_isLatticeVector_8 : decode mi_X7_isLatticeVector.2.1 8 = .ok (.invokevirtual 75, 3) := by decide +kernel
theorem dX7_isLatticeVector_11 : decode mi_X7_isLatticeVector.2.1 11 = .ok (.baload, 1) := by decide +kernel
theorem dX7_isLatticeVector_12 : decode mi_X7_isLatticeVector.2.1 12 = .ok (.ireturn, 1) := by decide +kernel
theorem dX7_isHalved_0 : decode mi_X7_isHalved.2.1 0 = .ok (.iload_n 2, 1) := by decide +kernel
theorem dX7_isHalved_1 : decode mi_X7_isHalved.2.1 1 = .ok (.aload_n 0, 1) := by decide +kernel
theorem dX7_isHalved_2 : decode mi_X7_isHalved.2.1 2 = .ok (.iload_n 1, 1) := by decide +kernel
theorem dX7_isHalved_3 : decode mi_X7_isHalved.2.1 3 = .ok (.iload_n 2, 1) := by decide +kernel
theorem dX7_isHalved_4 : decode mi_X7_isHalved.2.1 4 = .ok (.iload_n 3, 1) := by decide +kernel
theorem dX7_isHalved_5 : decode mi_X7_isHalved.2.1 5 = .ok (.invokevirtual 68, 3) := by decide +kernel
theorem dX7_isHalved_8 : decode mi_X7_isHalved.2.1 8 = .ok (.iadd, 1) := by decide +kernel
theorem dX7_isHalved_9 : decode mi_X7_isHalved.2.1 9 = .ok (.istore 4, 2) := by decide +kernel
theorem dX7_isHalved_11 : decode mi_X7_isHalved.2.1 11 = .ok (.iload_n 3, 1) := by decide +kernel
theorem dX7_isHalved_12 : decode mi_X7_isHalved.2.1 12 = .ok (.aload_n 0, 1) := by decide +kernel
theorem dX7_isHalved_13 : decode mi_X7_isHalved.2.1 13 = .ok (.iload_n 1, 1) := by decide +kernel
theorem dX7_isHalved_14 : decode mi_X7_isHalved.2.1 14 = .ok (.iload_n 2, 1) := by decide +kernel
theorem dX7_isHalved_15 : decode mi_X7_isHalved.2.1 15 = .ok (.iload_n 3, 1) := by decide +kernel
theorem dX7_isHalved_16 : decode mi_X7_isHalved.2.1 16 = .ok (.invokevirtual 72, 3) := by decide +kernel
theorem dX7_isHalved_19 : decode mi_X7_isHalved.2.1 19 = .ok (.iadd, 1) := by decide +kernel
theorem dX7_isHalved_20 : decode mi_X7_isHalved.2.1 20 = .ok (.istore 5, 2) := by decide +kernel
theorem dX7_isHalved_22 : decode mi_X7_isHalved.2.1 22 = .ok (.iload 4, 2) := by decide +kernel
theorem dX7_isHalved_24 : decode mi_X7_isHalved.2.1 24 = .ok (.iconst 2, 1) := by decide +kernel
theorem dX7_isHalved_25 : decode mi_X7_isHalved.2.1 25 = .ok (.irem, 1) := by decide +kernel
theorem dX7_isHalved_26 : decode mi_X7_isHalved.2.1 26 = .ok (.ifCond .ne 25, 3) := by decide +kernel
theorem dX7_isHalved_29 : decode mi_X7_isHalved.2.1 29 = .ok (.iload 5, 2) := by decide +kernel
theorem dX7_isHalved_31 : decode mi_X7_isHalved.2.1 31 = .ok (.iconst 2, 1) := by decide +kernel
theorem dX7_isHalved_32 : decode mi_X7_isHalved.2.1 32 = .ok (.irem, 1) := by decide +kernel
theorem dX7_isHalved_33 : decode mi_X7_isHalved.2.1 33 = .ok (.ifCond .ne 18, 3) := by decide +kernel
theorem dX7_isHalved_36 : decode mi_X7_isHalved.2.1 36 = .ok (.aload_n 0, 1) := by decide +kernel
theorem dX7_isHalved_37 : decode mi_X7_isHalved.2.1 37 = .ok (.iload 4, 2) := by decide +kernel
theorem dX7_isHalved_39 : decode mi_X7_isHalved.2.1 39 = .ok (.iconst 2, 1) := by decide +kernel
theorem dX7_isHalved_40 : decode mi_X7_isHalved.2.1 40 = .ok (.idiv, 1) := by decide +kernel
theorem dX7_isHalved_41 : decode mi_X7_isHalved.2.1 41 = .ok (.iload 5, 2) := by decide +kernel
theorem dX7_isHalved_43 : decode mi_X7_isHalved.2.1 43 = .ok (.iconst 2, 1) := by decide +kernel
theorem dX7_isHalved_44 : decode mi_X7_isHalved.2.1 44 = .ok (.idiv, 1) := by decide +kernel
theorem dX7_isHalved_45 : decode mi_X7_isHalved.2.1 45 = .ok (.invokevirtual 142, 3) := by decide +kernel
theorem dX7_isHalved_48 : decode mi_X7_isHalved.2.1 48 = .ok (.ifCond .ne 7, 3) := by decide +kernel
theorem dX7_isHalved_51 : decode mi_X7_isHalved.2.1 51 = .ok (.iconst 1, 1) := by decide +kernel
theorem dX7_isHalved_52 : decode mi_X7_isHalved.2.1 52 = .ok (.goto 4, 3) := by decide +kernel
theorem dX7_isHalved_55 : decode mi_X7_isHalved.2.1 55 = .ok (.iconst 0, 1) := by decide +kernel
theorem dX7_isHalved_56 : decode mi_X7_isHalved.2.1 56 = .ok (.ireturn, 1) := by decide +kernel
theorem dX7_isCenteredBy_0 : decode mi_X7_isCenteredBy.2.1 0 = .ok (.aload_n 0, 1) := by decide +kernel
theorem dX7_isCenteredBy_1 : decode mi_X7_isCenteredBy.2.1 1 = .ok (.iload_n 1, 1) := by decide +kernel
theorem dX7_isCenteredBy_2 : decode mi_X7_isCenteredBy.2.1 2 = .ok (.aload_n 0, 1) := by decide +kernel
theorem dX7_isCenteredBy_3 : decode mi_X7_isCenteredBy.2.1 3 = .ok (.getfield 7, 3) := by decide +kernel
theorem dX7_isCenteredBy_6 : decode mi_X7_isCenteredBy.2.1 6 = .ok (.iconst 1, 1) := by decide +kernel
theorem dX7_isCenteredBy_7 : decode mi_X7_isCenteredBy.2.1 7 = .ok (.iaload, 1) := by decide +kernel
theorem dX7_isCenteredBy_8 : decode mi_X7_isCenteredBy.2.1 8 = .ok (.iconst 0, 1) := by decide +kernel
theorem dX7_isCenteredBy_9 : decode mi_X7_isCenteredBy.2.1 9 = .ok (.invokevirtual 146, 3) := by decide +kernel
theorem dX7_isCenteredBy_12 : decode mi_X7_isCenteredBy.2.1 12 = .ok (.ifCond .ne 18, 3) := by decide +kernel
theorem dX7_isCenteredBy_15 : decode mi_X7_isCenteredBy.2.1 15 = .ok (.aload_n 0, 1) := by decide +kernel
theorem dX7_isCenteredBy_16 : decode mi_X7_isCenteredBy.2.1 16 = .ok (.iload_n 1, 1) := by decide +kernel
theorem dX7_isCenteredBy_17 : decode mi_X7_isCenteredBy.2.1 17 = .ok (.iconst 0, 1) := by decide +kernel
theorem dX7_isCenteredBy_18 : decode mi_X7_isCenteredBy.2.1 18 = .ok (.aload_n 0, 1) := by decide +kernel
theorem dX7_isCenteredBy_19 : decode mi_X7_isCenteredBy.2.1 19 = .ok (.getfield 7, 3) := by decide +kernel
theorem dX7_isCenteredBy_22 : decode mi_X7_isCenteredBy.2.1 22 = .ok (.iconst 1, 1) := by decide +kernel
theorem dX7_isCenteredBy_23 : decode mi_X7_isCenteredBy.2.1 23 = .ok (.iaload, 1) := by decide +kernel
theorem dX7_isCenteredBy_24 : decode mi_X7_isCenteredBy.2.1 24 = .ok (.invokevirtual 146, 3) := by decide +kernel
theorem dX7_isCenteredBy_27 : decode mi_X7_isCenteredBy.2.1 27 = .ok (.ifCond .eq 7, 3) := by decide +kernel
theorem dX7_isCenteredBy_30 : decode mi_X7_isCenteredBy.2.1 30 = .ok (.iconst 1, 1) := by decide +kernel
theorem dX7_isCenteredBy_31 : decode mi_X7_isCenteredBy.2.1 31 = .ok (.goto 4, 3) := by decide +kernel
theorem dX7_isCenteredBy_34 : decode mi_X7_isCenteredBy.2.1 34 = .ok (.iconst 0, 1) := by decide +kernel
theorem dX7_isCenteredBy_35 : decode mi_X7_isCenteredBy.2.1 35 = .ok (.istore_n 2, 1) := by decide +kernel
theorem dX7_isCenteredBy_36 : decode mi_X7_isCenteredBy.2.1 36 = .ok (.iconst 0, 1) := by decide +kernel
theorem dX7_isCenteredBy_37 : decode mi_X7_isCenteredBy.2.1 37 = .ok (.istore_n 3, 1) := by decide +kernel
theorem dX7_isCenteredBy_38 : decode mi_X7_isCenteredBy.2.1 38 = .ok (.iload_n 3, 1) := by decide +kernel
theorem dX7_isCenteredBy_39 : decode mi_X7_isCenteredBy.2.1 39 = .ok (.aload_n 0, 1) := by decide +kernel
theorem dX7_isCenteredBy_40 : decode mi_X7_isCenteredBy.2.1 40 = .ok (.invokevirtual 51, 3) := by decide +kernel
theorem dX7_isCenteredBy_43 : decode mi_X7_isCenteredBy.2.1 43 = .ok (.if_icmp .ge 46, 3) := by decide +kernel
theorem dX7_isCenteredBy_46 : decode mi_X7_isCenteredBy.2.1 46 = .ok (.iload_n 2, 1) := by decide +kernel
theorem dX7_isCenteredBy_47 : decode mi_X7_isCenteredBy.2.1 47 = .ok (.ifCond .ne 30, 3) := by decide +kernel
theorem dX7_isCenteredBy_50 : decode mi_X7_isCenteredBy.2.1 50 = .ok (.aload_n 0, 1) := by decide +kernel
theorem dX7_isCenteredBy_51 : decode mi_X7_isCenteredBy.2.1 51 = .ok (.getfield 22, 3) := by decide +kernel
theorem dX7_isCenteredBy_54 : decode mi_X7_isCenteredBy.2.1 54 = .ok (.iload_n 3, 1) := by decide +kernel
theorem dX7_isCenteredBy_55 : decode mi_X7_isCenteredBy.2.1 55 = .ok (.baload, 1) := by decide +kernel
theorem dX7_isCenteredBy_56 : decode mi_X7_isCenteredBy.2.1 56 = .ok (.ifCond .eq 25, 3) := by decide +kernel
theorem dX7_isCenteredBy_59 : decode mi_X7_isCenteredBy.2.1 59 = .ok (.aload_n 0, 1) := by decide +kernel
theorem dX7_isCenteredBy_60 : decode mi_X7_isCenteredBy.2.1 60 = .ok (.iload_n 1, 1) := by decide +kernel
theorem dX7_isCenteredBy_61 : decode mi_X7_isCenteredBy.2.1 61 = .ok (.aload_n 0, 1) := by decide +kernel
theorem dX7_isCenteredBy_62 : decode mi_X7_isCenteredBy.2.1 62 = .ok (.iload_n 3, 1) := by decide +kernel
theorem dX7_isCenteredBy_63 : decode mi_X7_isCenteredBy.2.1 63 = .ok (.invokevirtual 62, 3) := by decide +kernel
theorem dX7_isCenteredBy_66 : decode mi_X7_isCenteredBy.2.1 66 = .ok (.aload_n 0, 1) := by decide +kernel
theorem dX7_isCenteredBy_67 : decode mi_X7_isCenteredBy.2.1 67 = .ok (.iload_n 3, 1) := by decide +kernel
theorem dX7_isCenteredBy_68 : decode mi_X7_isCenteredBy.2.1 68 = .ok (.invokevirtual 65, 3) := by decide +kernel
theorem dX7_isCenteredBy_71 : decode mi_X7_isCenteredBy.2.1 71 = .ok (.invokevirtual 146, 3) := by decide +kernel
theorem dX7_isCenteredBy_74 : decode mi_X7_isCenteredBy.2.1 74 = .ok (.ifCond .eq 7, 3) := by decide +kernel
theorem dX7_isCenteredBy_77 : decode mi_X7_isCenteredBy.2.1 77 = .ok (.iconst 1, 1) := by decide +kernel
theorem dX7_isCenteredBy_78 : decode mi_X7_isCenteredBy.2.1 78 = .ok (.goto 4, 3) := by decide +kernel
theorem dX7_isCenteredBy_81 : decode mi_X7_isCenteredBy.2.1 81 = .ok (.iconst 0, 1) := by decide +kernel
theorem dX7_isCenteredBy_82 : decode mi_X7_isCenteredBy.2.1 82 = .ok (.istore_n 2, 1) := by decide +kernel
theorem dX7_isCenteredBy_83 : decode mi_X7_isCenteredBy.2.1 83 = .ok (.iinc 3 1, 3) := by decide +kernel
theorem dX7_isCenteredBy_86 : decode mi_X7_isCenteredBy.2.1 86 = .ok (.goto (-48), 3) := by decide +kernel
theorem dX7_isCenteredBy_89 : decode mi_X7_isCenteredBy.2.1 89 = .ok (.iload_n 2, 1) := by decide +kernel
theorem dX7_isCenteredBy_90 : decode mi_X7_isCenteredBy.2.1 90 = .ok (.ireturn, 1) := by decide +kernel
theorem dX7_isCenteredNow_0 : decode mi_X7_isCenteredNow.2.1 0 = .ok (.aload_n 0, 1) := by decide +kernel
theorem dX7_isCenteredNow_1 : decode mi_X7_isCenteredNow.2.1 1 = .ok (.iconst 1, 1) := by decide +kernel
theorem dX7_isCenteredNow_2 : decode mi_X7_isCenteredNow.2.1 2 = .ok (.invokevirtual 126, 3) := by decide +kernel
theorem dX7_isCenteredNow_5 : decode mi_X7_isCenteredNow.2.1 5 = .ok (.istore_n 1, 1) := by decide +kernel
theorem dX7_isCenteredNow_6 : decode mi_X7_isCenteredNow.2.1 6 = .ok (.iconst 0, 1) := by decide +kernel
theorem dX7_isCenteredNow_7 : decode mi_X7_isCenteredNow.2.1 7 = .ok (.istore_n 2, 1) := by decide +kernel
theorem dX7_isCenteredNow_8 : decode mi_X7_isCenteredNow.2.1 8 = .ok (.iconst 0, 1) := by decide +kernel
theorem dX7_isCenteredNow_9 : decode mi_X7_isCenteredNow.2.1 9 = .ok (.istore_n 3, 1) := by decide +kernel
theorem dX7_isCenteredNow_10 : decode mi_X7_isCenteredNow.2.1 10 = .ok (.iload_n 3, 1) := by decide +kernel
theorem dX7_isCenteredNow_11 : decode mi_X7_isCenteredNow.2.1 11 = .ok (.aload_n 0, 1) := by decide +kernel
theorem dX7_isCenteredNow_12 : decode mi_X7_isCenteredNow.2.1 12 = .ok (.getfield 36, 3) := by decide +kernel
theorem dX7_isCenteredNow_15 : decode mi_X7_isCenteredNow.2.1 15 = .ok (.if_icmp .ge 36, 3) := by decide +kernel
theorem dX7_isCenteredNow_18 : decode mi_X7_isCenteredNow.2.1 18 = .ok (.iload_n 2, 1) := by decide +kernel
theorem dX7_isCenteredNow_19 : decode mi_X7_isCenteredNow.2.1 19 = .ok (.ifCond .ne 20, 3) := by decide +kernel
theorem dX7_isCenteredNow_22 : decode mi_X7_isCenteredNow.2.1 22 = .ok (.iload_n 1, 1) := by decide +kernel
theorem dX7_isCenteredNow_23 : decode mi_X7_isCenteredNow.2.1 23 = .ok (.iload_n 3, 1) := by decide +kernel
theorem dX7_isCenteredNow_24 : decode mi_X7_isCenteredNow.2.1 24 = .ok (.ishr, 1) := by decide +kernel
theorem dX7_isCenteredNow_25 : decode mi_X7_isCenteredNow.2.1 25 = .ok (.iconst 1, 1) := by decide +kernel
theorem dX7_isCenteredNow_26 : decode mi_X7_isCenteredNow.2.1 26 = .ok (.iand, 1) := by decide +kernel
theorem dX7_isCenteredNow_27 : decode mi_X7_isCenteredNow.2.1 27 = .ok (.iconst 1, 1) := by decide +kernel
theorem dX7_isCenteredNow_28 : decode mi_X7_isCenteredNow.2.1 28 = .ok (.if_icmp .ne 15, 3) := by decide +kernel
theorem dX7_isCenteredNow_31 : decode mi_X7_isCenteredNow.2.1 31 = .ok (.aload_n 0, 1) := by decide +kernel
theorem dX7_isCenteredNow_32 : decode mi_X7_isCenteredNow.2.1 32 = .ok (.iload_n 3, 1) := by decide +kernel
theorem dX7_isCenteredNow_33 : decode mi_X7_isCenteredNow.2.1 33 = .ok (.invokevirtual 149, 3) := by decide +kernel
theorem dX7_isCenteredNow_36 : decode mi_X7_isCenteredNow.2.1 36 = .ok (.ifCond .eq 7, 3) := by decide +kernel
theorem dX7_isCenteredNow_39 : decode mi_X7_isCenteredNow.2.1 39 = .ok (.iconst 1, 1) := by decide +kernel
theorem dX7_isCenteredNow_40 : decode mi_X7_isCenteredNow.2.1 40 = .ok (.goto 4, 3) := by decide +kernel
theorem dX7_isCenteredNow_43 : decode mi_X7_isCenteredNow.2.1 43 = .ok (.iconst 0, 1) := by decide +kernel
theorem dX7_isCenteredNow_44 : decode mi_X7_isCenteredNow.2.1 44 = .ok (.istore_n 2, 1) := by decide +kernel
theorem dX7_isCenteredNow_45 : decode mi_X7_isCenteredNow.2.1 45 = .ok (.iinc 3 1, 3) := by decide +kernel
theorem dX7_isCenteredNow_48 : decode mi_X7_isCenteredNow.2.1 48 = .ok (.goto (-38), 3) := by decide +kernel
theorem dX7_isCenteredNow_51 : decode mi_X7_isCenteredNow.2.1 51 = .ok (.iload_n 2, 1) := by decide +kernel
theorem dX7_isCenteredNow_52 : decode mi_X7_isCenteredNow.2.1 52 = .ok (.ireturn, 1) := by decide +kernel
theorem dX7_isCentered_0 : decode mi_X7_isCentered.2.1 0 = .ok (.aload_n 0, 1) := by decide +kernel
theorem dX7_isCentered_1 : decode mi_X7_isCentered.2.1 1 = .ok (.invokevirtual 152, 3) := by decide +kernel
theorem dX7_isCentered_4 : decode mi_X7_isCentered.2.1 4 = .ok (.ifCond .eq 7, 3) := by decide +kernel
theorem dX7_isCentered_7 : decode mi_X7_isCentered.2.1 7 = .ok (.iconst 1, 1) := by decide +kernel
theorem dX7_isCentered_8 : decode mi_X7_isCentered.2.1 8 = .ok (.goto 4, 3) := by decide +kernel
theorem dX7_isCentered_11 : decode mi_X7_isCentered.2.1 11 = .ok (.iconst 0, 1) := by decide +kernel
theorem dX7_isCentered_12 : decode mi_X7_isCentered.2.1 12 = .ok (.ireturn, 1) := by decide +kernel
theorem dX7_squared_0 : decode mi_X7_squared.2.1 0 = .ok (.iload_n 1, 1) := by decide +kernel
theorem dX7_squared_1 : decode mi_X7_squared.2.1 1 = .ok (.iload_n 1, 1) := by decide +kernel
theorem dX7_squared_2 : decode mi_X7_squared.2.1 2 = .ok (.imul, 1) := by decide +kernel
theorem dX7_squared_3 : decode mi_X7_squared.2.1 3 = .ok (.iload_n 2, 1) := by decide +kernel
theorem dX7_squared_4 : decode mi_X7_squared.2.1 4 = .ok (.iload_n 2, 1) := by decide +kernel
theorem dX7_squared_5 : decode mi_X7_squared.2.1 5 = .ok (.imul, 1) := by decide +kernel
theorem dX7_squared_6 : decode mi_X7_squared.2.1 6 = .ok (.iadd, 1) := by decide +kernel
theorem dX7_squared_7 : decode mi_X7_squared.2.1 7 = .ok (.aload_n 0, 1) := by decide +kernel
theorem dX7_squared_8 : decode mi_X7_squared.2.1 8 = .ok (.getfield 7, 3) := by decide +kernel
theorem dX7_squared_11 : decode mi_X7_squared.2.1 11 = .ok (.iconst 0, 1) := by decide +kernel
theorem dX7_squared_12 : decode mi_X7_squared.2.1 12 = .ok (.iaload, 1) := by decide +kernel
theorem dX7_squared_13 : decode mi_X7_squared.2.1 13 = .ok (.iconst 1, 1) := by decide +kernel
theorem dX7_squared_14 : decode mi_X7_squared.2.1 14 = .ok (.if_icmp .ne 9, 3) := by decide +kernel
theorem dX7_squared_17 : decode mi_X7_squared.2.1 17 = .ok (.iload_n 1, 1) := by decide +kernel
theorem dX7_squared_18 : decode mi_X7_squared.2.1 18 = .ok (.iload_n 2, 1) := by decide +kernel
theorem dX7_squared_19 : decode mi_X7_squared.2.1 19 = .ok (.imul, 1) := by decide +kernel
theorem dX7_squared_20 : decode mi_X7_squared.2.1 20 = .ok (.goto 4, 3) := by decide +kernel
theorem dX7_squared_23 : decode mi_X7_squared.2.1 23 = .ok (.iconst 0, 1) := by decide +kernel
theorem dX7_squared_24 : decode mi_X7_squared.2.1 24 = .ok (.iadd, 1) := by decide +kernel
theorem dX7_squared_25 : decode mi_X7_squared.2.1 25 = .ok (.ireturn, 1) := by decide +kernel
theorem dX7_leastSquared_0 : decode mi_X7_leastSquared.2.1 0 = .ok (.aload_n 0, 1) := by decide +kernel
theorem dX7_leastSquared_1 : decode mi_X7_leastSquared.2.1 1 = .ok (.getfield 7, 3) := by decide +kernel
theorem dX7_leastSquared_4 : decode mi_X7_leastSquared.2.1 4 = .ok (.iconst 1, 1) := by decide +kernel
theorem dX7_leastSquared_5 : decode mi_X7_leastSquared.2.1 5 = .ok (.iaload, 1) := by decide +kernel
theorem dX7_leastSquared_6 : decode mi_X7_leastSquared.2.1 6 = .ok (.aload_n 0, 1) := by decide +kernel
theorem dX7_leastSquared_7 : decode mi_X7_leastSquared.2.1 7 = .ok (.getfield 7, 3) := by decide +kernel
theorem dX7_leastSquared_10 : decode mi_X7_leastSquared.2.1 10 = .ok (.iconst 1, 1) := by decide +kernel
theorem dX7_leastSquared_11 : decode mi_X7_leastSquared.2.1 11 = .ok (.iaload, 1) := by decide +kernel
theorem dX7_leastSquared_12 : decode mi_X7_leastSquared.2.1 12 = .ok (.imul, 1) := by decide +kernel
theorem dX7_leastSquared_13 : decode mi_X7_leastSquared.2.1 13 = .ok (.istore_n 1, 1) := by decide +kernel
theorem dX7_leastSquared_14 : decode mi_X7_leastSquared.2.1 14 = .ok (.iconst 2, 1) := by decide +kernel
theorem dX7_leastSquared_15 : decode mi_X7_leastSquared.2.1 15 = .ok (.aload_n 0, 1) := by decide +kernel
theorem dX7_leastSquared_16 : decode mi_X7_leastSquared.2.1 16 = .ok (.getfield 7, 3) := by decide +kernel
theorem dX7_leastSquared_19 : decode mi_X7_leastSquared.2.1 19 = .ok (.iconst 1, 1) := by decide +kernel
theorem dX7_leastSquared_20 : decode mi_X7_leastSquared.2.1 20 = .ok (.iaload, 1) := by decide +kernel
theorem dX7_leastSquared_21 : decode mi_X7_leastSquared.2.1 21 = .ok (.imul, 1) := by decide +kernel
theorem dX7_leastSquared_22 : decode mi_X7_leastSquared.2.1 22 = .ok (.istore_n 2, 1) := by decide +kernel
theorem dX7_leastSquared_23 : decode mi_X7_leastSquared.2.1 23 = .ok (.iload_n 2, 1) := by decide +kernel
theorem dX7_leastSquared_24 : decode mi_X7_leastSquared.2.1 24 = .ok (.ineg, 1) := by decide +kernel
theorem dX7_leastSquared_25 : decode mi_X7_leastSquared.2.1 25 = .ok (.istore_n 3, 1) := by decide +kernel
theorem dX7_leastSquared_26 : decode mi_X7_leastSquared.2.1 26 = .ok (.iload_n 3, 1) := by decide +kernel
theorem dX7_leastSquared_27 : decode mi_X7_leastSquared.2.1 27 = .ok (.iload_n 2, 1) := by decide +kernel
theorem dX7_leastSquared_28 : decode mi_X7_leastSquared.2.1 28 = .ok (.if_icmp .gt 66, 3) := by decide +kernel
theorem dX7_leastSquared_31 : decode mi_X7_leastSquared.2.1 31 = .ok (.iload_n 2, 1) := by decide +kernel
theorem dX7_leastSquared_32 : decode mi_X7_leastSquared.2.1 32 = .ok (.ineg, 1) := by decide +kernel
theorem dX7_leastSquared_33 : decode mi_X7_leastSquared.2.1 33 = .ok (.istore 4, 2) := by decide +kernel
theorem dX7_leastSquared_35 : decode mi_X7_leastSquared.2.1 35 = .ok (.iload 4, 2) := by decide +kernel
theorem dX7_leastSquared_37 : decode mi_X7_leastSquared.2.1 37 = .ok (.iload_n 2, 1) := by decide +kernel
theorem dX7_leastSquared_38 : decode mi_X7_leastSquared.2.1 38 = .ok (.if_icmp .gt 50, 3) := by decide +kernel
theorem dX7_leastSquared_41 : decode mi_X7_leastSquared.2.1 41 = .ok (.aload_n 0, 1) := by decide +kernel
theorem dX7_leastSquared_42 : decode mi_X7_leastSquared.2.1 42 = .ok (.iload_n 3, 1) := by decide +kernel
theorem dX7_leastSquared_43 : decode mi_X7_leastSquared.2.1 43 = .ok (.iload 4, 2) := by decide +kernel
theorem dX7_leastSquared_45 : decode mi_X7_leastSquared.2.1 45 = .ok (.invokevirtual 142, 3) := by decide +kernel
theorem dX7_leastSquared_48 : decode mi_X7_leastSquared.2.1 48 = .ok (.ifCond .eq 13, 3) := by decide +kernel
theorem dX7_leastSquared_51 : decode mi_X7_leastSquared.2.1 51 = .ok (.aload_n 0, 1) := by decide +kernel
theorem dX7_leastSquared_52 : decode mi_X7_leastSquared.2.1 52 = .ok (.iload_n 3, 1) := by decide +kernel
theorem dX7_leastSquared_53 : decode mi_X7_leastSquared.2.1 53 = .ok (.iload 4, 2) := by decide +kernel
theorem dX7_leastSquared_55 : decode mi_X7_leastSquared.2.1 55 = .ok (.invokevirtual 156, 3) := by decide +kernel
theorem dX7_leastSquared_58 : decode mi_X7_leastSquared.2.1 58 = .ok (.goto 4, 3) := by decide +kernel
theorem dX7_leastSquared_61 : decode mi_X7_leastSquared.2.1 61 = .ok (.iconst 0, 1) := by decide +kernel
theorem dX7_leastSquared_62 : decode mi_X7_leastSquared.2.1 62 = .ok (.istore 5, 2) := by decide +kernel
theorem dX7_leastSquared_64 : decode mi_X7_leastSquared.2.1 64 = .ok (.iload 5, 2) := by decide +kernel
theorem dX7_leastSquared_66 : decode mi_X7_leastSquared.2.1 66 = .ok (.ifCond .le 14, 3) := by decide +kernel
theorem dX7_leastSquared_69 : decode mi_X7_leastSquared.2.1 69 = .ok (.iload 5, 2) := by decide +kernel
theorem dX7_leastSquared_71 : decode mi_X7_leastSquared.2.1 71 = .ok (.iload_n 1, 1) := by decide +kernel
theorem dX7_leastSquared_72 : decode mi_X7_leastSquared.2.1 72 = .ok (.if_icmp .ge 8, 3) := by decide +kernel
theorem dX7_leastSquared_75 : decode mi_X7_leastSquared.2.1 75 = .ok (.iload 5, 2) := by decide +kernel
theorem dX7_leastSquared_77 : decode mi_X7_leastSquared.2.1 77 = .ok (.goto 4, 3) := by decide +kernel
theorem dX7_leastSquared_80 : decode mi_X7_leastSquared.2.1 80 = .ok (.iload_n 1, 1) := by decide +kernel
theorem dX7_leastSquared_81 : decode mi_X7_leastSquared.2.1 81 = .ok (.istore_n 1, 1) := by decide +kernel
theorem dX7_leastSquared_82 : decode mi_X7_leastSquared.2.1 82 = .ok (.iinc 4 1, 3) := by decide +kernel
theorem dX7_leastSquared_85 : decode mi_X7_leastSquared.2.1 85 = .ok (.goto (-50), 3) := by decide +kernel
theorem dX7_leastSquared_88 : decode mi_X7_leastSquared.2.1 88 = .ok (.iinc 3 1, 3) := by decide +kernel
theorem dX7_leastSquared_91 : decode mi_X7_leastSquared.2.1 91 = .ok (.goto (-65), 3) := by decide +kernel
theorem dX7_leastSquared_94 : decode mi_X7_leastSquared.2.1 94 = .ok (.iload_n 1, 1) := by decide +kernel
theorem dX7_leastSquared_95 : decode mi_X7_leastSquared.2.1 95 = .ok (.ireturn, 1) := by decide +kernel
theorem dX7_isShortestFixed_0 : decode mi_X7_isShortestFixed.2.1 0 = .ok (.aload_n 0, 1) := by decide +kernel
theorem dX7_isShortestFixed_1 : decode mi_X7_isShortestFixed.2.1 1 = .ok (.iconst 0, 1) := by decide +kernel
theorem dX7_isShortestFixed_2 : decode mi_X7_isShortestFixed.2.1 2 = .ok (.invokevirtual 126, 3) := by decide +kernel
theorem dX7_isShortestFixed_5 : decode mi_X7_isShortestFixed.2.1 5 = .ok (.istore_n 1, 1) := by decide +kernel
theorem dX7_isShortestFixed_6 : decode mi_X7_isShortestFixed.2.1 6 = .ok (.aload_n 0, 1) := by decide +kernel
theorem dX7_isShortestFixed_7 : decode mi_X7_isShortestFixed.2.1 7 = .ok (.invokevirtual 159, 3) := by decide +kernel
theorem dX7_isShortestFixed_10 : decode mi_X7_isShortestFixed.2.1 10 = .ok (.istore_n 2, 1) := by decide +kernel
theorem dX7_isShortestFixed_11 : decode mi_X7_isShortestFixed.2.1 11 = .ok (.iconst 2, 1) := by decide +kernel
theorem dX7_isShortestFixed_12 : decode mi_X7_isShortestFixed.2.1 12 = .ok (.aload_n 0, 1) := by decide +kernel
theorem dX7_isShortestFixed_13 : decode mi_X7_isShortestFixed.2.1 13 = .ok (.getfield 7, 3) := by decide +kernel
theorem dX7_isShortestFixed_16 : decode mi_X7_isShortestFixed.2.1 16 = .ok (.iconst 1, 1) := by decide +kernel
theorem dX7_isShortestFixed_17 : decode mi_X7_isShortestFixed.2.1 17 = .ok (.iaload, 1) := by decide +kernel
theorem dX7_isShortestFixed_18 : decode mi_X7_isShortestFixed.2.1 18 = .ok (.imul, 1) := by decide +kernel
theorem dX7_isShortestFixed_19 : decode mi_X7_isShortestFixed.2.1 19 = .ok (.istore_n 3, 1) := by decide +kernel
theorem dX7_isShortestFixed_20 : decode mi_X7_isShortestFixed.2.1 20 = .ok (.iconst 0, 1) := by decide +kernel
theorem dX7_isShortestFixed_21 : decode mi_X7_isShortestFixed.2.1 21 = .ok (.istore 4, 2) := by decide +kernel
theorem dX7_isShortestFixed_23 : decode mi_X7_isShortestFixed.2.1 23 = .ok (.iload_n 3, 1) := by decide +kernel
theorem dX7_isShortestFixed_24 : decode mi_X7_isShortestFixed.2.1 24 = .ok (.ineg, 1) := by decide +kernel
theorem dX7_isShortestFixed_25 : decode mi_X7_isShortestFixed.2.1 25 = .ok (.istore 5, 2) := by decide +kernel
theorem dX7_isShortestFixed_27 : decode mi_X7_isShortestFixed.2.1 27 = .ok (.iload 5, 2) := by decide +kernel
theorem dX7_isShortestFixed_29 : decode mi_X7_isShortestFixed.2.1 29 = .ok (.iload_n 3, 1) := by decide +kernel
theorem dX7_isShortestFixed_30 : decode mi_X7_isShortestFixed.2.1 30 = .ok (.if_icmp .gt 135, 3) := by decide +kernel
theorem dX7_isShortestFixed_33 : decode mi_X7_isShortestFixed.2.1 33 = .ok (.iload_n 3, 1) := by decide +kernel
theorem dX7_isShortestFixed_34 : decode mi_X7_isShortestFixed.2.1 34 = .ok (.ineg, 1) := by decide +kernel
theorem dX7_isShortestFixed_35 : decode mi_X7_isShortestFixed.2.1 35 = .ok (.istore 6, 2) := by decide +kernel
theorem dX7_isShortestFixed_37 : decode mi_X7_isShortestFixed.2.1 37 = .ok (.iload 6, 2) := by decide +kernel
theorem dX7_isShortestFixed_39 : decode mi_X7_isShortestFixed.2.1 39 = .ok (.iload_n 3, 1) := by decide +kernel
theorem dX7_isShortestFixed_40 : decode mi_X7_isShortestFixed.2.1 40 = .ok (.if_icmp .gt 119, 3) := by decide +kernel
theorem dX7_isShortestFixed_43 : decode mi_X7_isShortestFixed.2.1 43 = .ok (.aload_n 0, 1) := by decide +kernel
theorem dX7_isShortestFixed_44 : decode mi_X7_isShortestFixed.2.1 44 = .ok (.iload 5, 2) := by decide +kernel
theorem dX7_isShortestFixed_46 : decode mi_X7_isShortestFixed.2.1 46 = .ok (.iload 6, 2) := by decide +kernel
theorem dX7_isShortestFixed_48 : decode mi_X7_isShortestFixed.2.1 48 = .ok (.invokevirtual 142, 3) := by decide +kernel
theorem dX7_isShortestFixed_51 : decode mi_X7_isShortestFixed.2.1 51 = .ok (.ifCond .eq 19, 3) := by decide +kernel
theorem dX7_isShortestFixed_54 : decode mi_X7_isShortestFixed.2.1 54 = .ok (.aload_n 0, 1) := by decide +kernel
theorem dX7_isShortestFixed_55 : decode mi_X7_isShortestFixed.2.1 55 = .ok (.iload 5, 2) := by decide +kernel
theorem dX7_isShortestFixed_57 : decode mi_X7_isShortestFixed.2.1 57 = .ok (.iload 6, 2) := by decide +kernel
theorem dX7_isShortestFixed_59 : decode mi_X7_isShortestFixed.2.1 59 = .ok (.invokevirtual 156, 3) := by decide +kernel
theorem dX7_isShortestFixed_62 : decode mi_X7_isShortestFixed.2.1 62 = .ok (.iload_n 2, 1) := by decide +kernel
theorem dX7_isShortestFixed_63 : decode mi_X7_isShortestFixed.2.1 63 = .ok (.if_icmp .ne 7, 3) := by decide +kernel
theorem dX7_isShortestFixed_66 : decode mi_X7_isShortestFixed.2.1 66 = .ok (.iconst 1, 1) := by decide +kernel
theorem dX7_isShortestFixed_67 : decode mi_X7_isShortestFixed.2.1 67 = .ok (.goto 4, 3) := by decide +kernel
theorem dX7_isShortestFixed_70 : decode mi_X7_isShortestFixed.2.1 70 = .ok (.iconst 0, 1) := by decide +kernel
theorem dX7_isShortestFixed_71 : decode mi_X7_isShortestFixed.2.1 71 = .ok (.istore 7, 2) := by decide +kernel
theorem dX7_isShortestFixed_73 : decode mi_X7_isShortestFixed.2.1 73 = .ok (.aload_n 0, 1) := by decide +kernel
theorem dX7_isShortestFixed_74 : decode mi_X7_isShortestFixed.2.1 74 = .ok (.getfield 36, 3) := by decide +kernel
theorem dX7_isShortestFixed_77 : decode mi_X7_isShortestFixed.2.1 77 = .ok (.iconst 2, 1) := by decide +kernel
theorem dX7_isShortestFixed_78 : decode mi_X7_isShortestFixed.2.1 78 = .ok (.idiv, 1) := by decide +kernel
theorem dX7_isShortestFixed_79 : decode mi_X7_isShortestFixed.2.1 79 = .ok (.istore 8, 2) := by decide +kernel
theorem dX7_isShortestFixed_81 : decode mi_X7_isShortestFixed.2.1 81 = .ok (.iload 8, 2) := by decide +kernel
theorem dX7_isShortestFixed_83 : decode mi_X7_isShortestFixed.2.1 83 = .ok (.aload_n 0, 1) := by decide +kernel
theorem dX7_isShortestFixed_84 : decode mi_X7_isShortestFixed.2.1 84 = .ok (.getfield 36, 3) := by decide +kernel
theorem dX7_isShortestFixed_87 : decode mi_X7_isShortestFixed.2.1 87 = .ok (.if_icmp .ge 66, 3) := by decide +kernel
theorem dX7_isShortestFixed_90 : decode mi_X7_isShortestFixed.2.1 90 = .ok (.iload 7, 2) := by decide +kernel
theorem dX7_isShortestFixed_92 : decode mi_X7_isShortestFixed.2.1 92 = .ok (.ifCond .eq 61, 3) := by decide +kernel
theorem dX7_isShortestFixed_95 : decode mi_X7_isShortestFixed.2.1 95 = .ok (.iload 4, 2) := by decide +kernel
theorem dX7_isShortestFixed_97 : decode mi_X7_isShortestFixed.2.1 97 = .ok (.ifCond .ne 43, 3) := by decide +kernel
theorem dX7_isShortestFixed_100 : decode mi_X7_isShortestFixed.2.1 100 = .ok (.iload_n 1, 1) := by decide +kernel
theorem dX7_isShortestFixed_101 : decode mi_X7_isShortestFixed.2.1 101 = .ok (.iload 8, 2) := by decide +kernel
theorem dX7_isShortestFixed_103 : decode mi_X7_isShortestFixed.2.1 103 = .ok (.ishr, 1) := by decide +kernel
theorem dX7_isShortestFixed_104 : decode mi_X7_isShortestFixed.2.1 104 = .ok (.iconst 1, 1) := by decide +kernel
theorem dX7_isShortestFixed_105 : decode mi_X7_isShortestFixed.2.1 105 = .ok (.iand, 1) := by decide +kernel
theorem dX7_isShortestFixed_106 : decode mi_X7_isShortestFixed.2.1 106 = .ok (.iconst 1, 1) := by decide +kernel
theorem dX7_isShortestFixed_107 : decode mi_X7_isShortestFixed.2.1 107 = .ok (.if_icmp .ne 37, 3) := by decide +kernel
theorem dX7_isShortestFixed_110 : decode mi_X7_isShortestFixed.2.1 110 = .ok (.aload_n 0, 1) := by decide +kernel
theorem dX7_isShortestFixed_111 : decode mi_X7_isShortestFixed.2.1 111 = .ok (.iload 8, 2) := by decide +kernel
theorem dX7_isShortestFixed_113 : decode mi_X7_isShortestFixed.2.1 113 = .ok (.iload 5, 2) := by decide +kernel
theorem dX7_isShortestFixed_115 : decode mi_X7_isShortestFixed.2.1 115 = .ok (.iload 6, 2) := by decide +kernel
theorem dX7_isShortestFixed_117 : decode mi_X7_isShortestFixed.2.1 117 = .ok (.invokevirtual 68, 3) := by decide +kernel
theorem dX7_isShortestFixed_120 : decode mi_X7_isShortestFixed.2.1 120 = .ok (.iload 5, 2) := by decide +kernel
theorem dX7_isShortestFixed_122 : decode mi_X7_isShortestFixed.2.1 122 = .ok (.if_icmp .ne 22, 3) := by decide +kernel
theorem dX7_isShortestFixed_125 : decode mi_X7_isShortestFixed.2.1 125 = .ok (.aload_n 0, 1) := by decide +kernel
theorem dX7_isShortestFixed_126 : decode mi_X7_isShortestFixed.2.1 126 = .ok (.iload 8, 2) := by decide +kernel
theorem dX7_isShortestFixed_128 : decode mi_X7_isShortestFixed.2.1 128 = .ok (.iload 5, 2) := by decide +kernel
theorem dX7_isShortestFixed_130 : decode mi_X7_isShortestFixed.2.1 130 = .ok (.iload 6, 2) := by decide +kernel
theorem dX7_isShortestFixed_132 : decode mi_X7_isShortestFixed.2.1 132 = .ok (.invokevirtual 72, 3) := by decide +kernel
theorem dX7_isShortestFixed_135 : decode mi_X7_isShortestFixed.2.1 135 = .ok (.iload 6, 2) := by decide +kernel
theorem dX7_isShortestFixed_137 : decode mi_X7_isShortestFixed.2.1 137 = .ok (.if_icmp .ne 7, 3) := by decide +kernel
theorem dX7_isShortestFixed_140 : decode mi_X7_isShortestFixed.2.1 140 = .ok (.iconst 1, 1) := by decide +kernel
theorem dX7_isShortestFixed_141 : decode mi_X7_isShortestFixed.2.1 141 = .ok (.goto 4, 3) := by decide +kernel
theorem dX7_isShortestFixed_144 : decode mi_X7_isShortestFixed.2.1 144 = .ok (.iconst 0, 1) := by decide +kernel
theorem dX7_isShortestFixed_145 : decode mi_X7_isShortestFixed.2.1 145 = .ok (.istore 4, 2) := by decide +kernel
theorem dX7_isShortestFixed_147 : decode mi_X7_isShortestFixed.2.1 147 = .ok (.iinc 8 1, 3) := by decide +kernel
theorem dX7_isShortestFixed_150 : decode mi_X7_isShortestFixed.2.1 150 = .ok (.goto (-69), 3) := by decide +kernel
theorem dX7_isShortestFixed_153 : decode mi_X7_isShortestFixed.2.1 153 = .ok (.iinc 6 1, 3) := by decide +kernel
theorem dX7_isShortestFixed_156 : decode mi_X7_isShortestFixed.2.1 156 = .ok (.goto (-119), 3) := by decide +kernel
theorem dX7_isShortestFixed_159 : decode mi_X7_isShortestFixed.2.1 159 = .ok (.iinc 5 1, 3) := by decide +kernel
theorem dX7_isShortestFixed_162 : decode mi_X7_isShortestFixed.2.1 162 = .ok (.goto (-135), 3) := by decide +kernel
theorem dX7_isShortestFixed_165 : decode mi_X7_isShortestFixed.2.1 165 = .ok (.iload 4, 2) := by decide +kernel
theorem dX7_isShortestFixed_167 : decode mi_X7_isShortestFixed.2.1 167 = .ok (.ireturn, 1) := by decide +kernel
theorem dX7_type_0 : decode mi_X7_type.2.1 0 = .ok (.aload_n 0, 1) := by decide +kernel
theorem dX7_type_1 : decode mi_X7_type.2.1 1 = .ok (.invokevirtual 136, 3) := by decide +kernel
theorem dX7_type_4 : decode mi_X7_type.2.1 4 = .ok (.istore_n 1, 1) := by decide +kernel
theorem dX7_type_5 : decode mi_X7_type.2.1 5 = .ok (.aload_n 0, 1) := by decide +kernel
theorem dX7_type_6 : decode mi_X7_type.2.1 6 = .ok (.iconst 0, 1) := by decide +kernel
theorem dX7_type_7 : decode mi_X7_type.2.1 7 = .ok (.invokevirtual 126, 3) := by decide +kernel
theorem dX7_type_10 : decode mi_X7_type.2.1 10 = .ok (.aload_n 0, 1) := by decide +kernel
theorem dX7_type_11 : decode mi_X7_type.2.1 11 = .ok (.getfield 36, 3) := by decide +kernel
theorem dX7_type_14 : decode mi_X7_type.2.1 14 = .ok (.iconst 2, 1) := by decide +kernel
theorem dX7_type_15 : decode mi_X7_type.2.1 15 = .ok (.idiv, 1) := by decide +kernel
theorem dX7_type_16 : decode mi_X7_type.2.1 16 = .ok (.ishr, 1) := by decide +kernel
theorem dX7_type_17 : decode mi_X7_type.2.1 17 = .ok (.ifCond .ne 7, 3) := by decide +kernel
theorem dX7_type_20 : decode mi_X7_type.2.1 20 = .ok (.iconst 1, 1) := by decide +kernel
theorem dX7_type_21 : decode mi_X7_type.2.1 21 = .ok (.goto 4, 3) := by decide +kernel
theorem dX7_type_24 : decode mi_X7_type.2.1 24 = .ok (.iconst 0, 1) := by decide +kernel
theorem dX7_type_25 : decode mi_X7_type.2.1 25 = .ok (.istore_n 2, 1) := by decide +kernel
theorem dX7_type_26 : decode mi_X7_type.2.1 26 = .ok (.aload_n 0, 1) := by decide +kernel
theorem dX7_type_27 : decode mi_X7_type.2.1 27 = .ok (.invokevirtual 139, 3) := by decide +kernel
theorem dX7_type_30 : decode mi_X7_type.2.1 30 = .ok (.istore_n 3, 1) := by decide +kernel
theorem dX7_type_31 : decode mi_X7_type.2.1 31 = .ok (.iload_n 1, 1) := by decide +kernel
theorem dX7_type_32 : decode mi_X7_type.2.1 32 = .ok (.tableswitch 148 1 4 #[32, 61, 102, 126], 32) := by decide +kernel
theorem dX7_type_64 : decode mi_X7_type.2.1 64 = .ok (.iload_n 2, 1) := by decide +kernel
theorem dX7_type_65 : decode mi_X7_type.2.1 65 = .ok (.ifCond .eq 7, 3) := by decide +kernel
theorem dX7_type_68 : decode mi_X7_type.2.1 68 = .ok (.iconst 0, 1) := by decide +kernel
theorem dX7_type_69 : decode mi_X7_type.2.1 69 = .ok (.goto 23, 3) := by decide +kernel
theorem dX7_type_72 : decode mi_X7_type.2.1 72 = .ok (.iload_n 3, 1) := by decide +kernel
theorem dX7_type_73 : decode mi_X7_type.2.1 73 = .ok (.ifCond .ne 7, 3) := by decide +kernel
theorem dX7_type_76 : decode mi_X7_type.2.1 76 = .ok (.iconst 1, 1) := by decide +kernel
theorem dX7_type_77 : decode mi_X7_type.2.1 77 = .ok (.goto 15, 3) := by decide +kernel
theorem dX7_type_80 : decode mi_X7_type.2.1 80 = .ok (.aload_n 0, 1) := by decide +kernel
theorem dX7_type_81 : decode mi_X7_type.2.1 81 = .ok (.invokevirtual 152, 3) := by decide +kernel
theorem dX7_type_84 : decode mi_X7_type.2.1 84 = .ok (.ifCond .eq 7, 3) := by decide +kernel
theorem dX7_type_87 : decode mi_X7_type.2.1 87 = .ok (.iconst 2, 1) := by decide +kernel
theorem dX7_type_88 : decode mi_X7_type.2.1 88 = .ok (.goto 4, 3) := by decide +kernel
theorem dX7_type_91 : decode mi_X7_type.2.1 91 = .ok (.iconst 3, 1) := by decide +kernel
theorem dX7_type_92 : decode mi_X7_type.2.1 92 = .ok (.ireturn, 1) := by decide +kernel
theorem dX7_type_93 : decode mi_X7_type.2.1 93 = .ok (.iload_n 2, 1) := by decide +kernel
theorem dX7_type_94 : decode mi_X7_type.2.1 94 = .ok (.ifCond .eq 7, 3) := by decide +kernel
theorem dX7_type_97 : decode mi_X7_type.2.1 97 = .ok (.iconst 4, 1) := by decide +kernel
theorem dX7_type_98 : decode mi_X7_type.2.1 98 = .ok (.goto 35, 3) := by decide +kernel
theorem dX7_type_101 : decode mi_X7_type.2.1 101 = .ok (.iload_n 3, 1) := by decide +kernel
theorem dX7_type_102 : decode mi_X7_type.2.1 102 = .ok (.ifCond .ne 7, 3) := by decide +kernel
theorem dX7_type_105 : decode mi_X7_type.2.1 105 = .ok (.iconst 5, 1) := by decide +kernel
theorem dX7_type_106 : decode mi_X7_type.2.1 106 = .ok (.goto 27, 3) := by decide +kernel
theorem dX7_type_109 : decode mi_X7_type.2.1 109 = .ok (.iload_n 3, 1) := by decide +kernel
theorem dX7_type_110 : decode mi_X7_type.2.1 110 = .ok (.iconst 1, 1) := by decide +kernel
theorem dX7_type_111 : decode mi_X7_type.2.1 111 = .ok (.if_icmp .ne 8, 3) := by decide +kernel
theorem dX7_type_114 : decode mi_X7_type.2.1 114 = .ok (.bipush 6, 2) := by decide +kernel
theorem dX7_type_116 : decode mi_X7_type.2.1 116 = .ok (.goto 17, 3) := by decide +kernel
theorem dX7_type_119 : decode mi_X7_type.2.1 119 = .ok (.aload_n 0, 1) := by decide +kernel
theorem dX7_type_120 : decode mi_X7_type.2.1 120 = .ok (.invokevirtual 152, 3) := by decide +kernel
theorem dX7_type_123 : decode mi_X7_type.2.1 123 = .ok (.ifCond .eq 8, 3) := by decide +kernel
theorem dX7_type_126 : decode mi_X7_type.2.1 126 = .ok (.bipush 7, 2) := by decide +kernel
theorem dX7_type_128 : decode mi_X7_type.2.1 128 = .ok (.goto 5, 3) := by decide +kernel
theorem dX7_type_131 : decode mi_X7_type.2.1 131 = .ok (.bipush 8, 2) := by decide +kernel
theorem dX7_type_133 : decode mi_X7_type.2.1 133 = .ok (.ireturn, 1) := by decide +kernel
theorem dX7_type_134 : decode mi_X7_type.2.1 134 = .ok (.iload_n 2, 1) := by decide +kernel
theorem dX7_type_135 : decode mi_X7_type.2.1 135 = .ok (.ifCond .eq 8, 3) := by decide +kernel
theorem dX7_type_138 : decode mi_X7_type.2.1 138 = .ok (.bipush 9, 2) := by decide +kernel
theorem dX7_type_140 : decode mi_X7_type.2.1 140 = .ok (.goto 17, 3) := by decide +kernel
theorem dX7_type_143 : decode mi_X7_type.2.1 143 = .ok (.aload_n 0, 1) := by decide +kernel
theorem dX7_type_144 : decode mi_X7_type.2.1 144 = .ok (.invokevirtual 162, 3) := by decide +kernel
theorem dX7_type_147 : decode mi_X7_type.2.1 147 = .ok (.ifCond .eq 8, 3) := by decide +kernel
theorem dX7_type_150 : decode mi_X7_type.2.1 150 = .ok (.bipush 10, 2) := by decide +kernel
theorem dX7_type_152 : decode mi_X7_type.2.1 152 = .ok (.goto 5, 3) := by decide +kernel
theorem dX7_type_155 : decode mi_X7_type.2.1 155 = .ok (.bipush 11, 2) := by decide +kernel
theorem dX7_type_157 : decode mi_X7_type.2.1 157 = .ok (.ireturn, 1) := by decide +kernel
theorem dX7_type_158 : decode mi_X7_type.2.1 158 = .ok (.iload_n 2, 1) := by decide +kernel
theorem dX7_type_159 : decode mi_X7_type.2.1 159 = .ok (.ifCond .eq 8, 3) := by decide +kernel
theorem dX7_type_162 : decode mi_X7_type.2.1 162 = .ok (.bipush 12, 2) := by decide +kernel
theorem dX7_type_164 : decode mi_X7_type.2.1 164 = .ok (.goto 15, 3) := by decide +kernel
theorem dX7_type_167 : decode mi_X7_type.2.1 167 = .ok (.iload_n 3, 1) := by decide +kernel
theorem dX7_type_168 : decode mi_X7_type.2.1 168 = .ok (.iconst 4, 1) := by decide +kernel
theorem dX7_type_169 : decode mi_X7_type.2.1 169 = .ok (.if_icmp .ge 8, 3) := by decide +kernel
theorem dX7_type_172 : decode mi_X7_type.2.1 172 = .ok (.bipush 13, 2) := by decide +kernel
theorem dX7_type_174 : decode mi_X7_type.2.1 174 = .ok (.goto 5, 3) := by decide +kernel
theorem dX7_type_177 : decode mi_X7_type.2.1 177 = .ok (.bipush 14, 2) := by decide +kernel
theorem dX7_type_179 : decode mi_X7_type.2.1 179 = .ok (.ireturn, 1) := by decide +kernel
theorem dX7_type_180 : decode mi_X7_type.2.1 180 = .ok (.iload_n 2, 1) := by decide +kernel
theorem dX7_type_181 : decode mi_X7_type.2.1 181 = .ok (.ifCond .eq 8, 3) := by decide +kernel
theorem dX7_type_184 : decode mi_X7_type.2.1 184 = .ok (.bipush 15, 2) := by decide +kernel
theorem dX7_type_186 : decode mi_X7_type.2.1 186 = .ok (.goto 5, 3) := by decide +kernel
theorem dX7_type_189 : decode mi_X7_type.2.1 189 = .ok (.bipush 16, 2) := by decide +kernel
theorem dX7_type_191 : decode mi_X7_type.2.1 191 = .ok (.ireturn, 1) := by decide +kernel
theorem dX7_isCell_0 : decode mi_X7_isCell.2.1 0 = .ok (.iload_n 1, 1) := by decide +kernel
theorem dX7_isCell_1 : decode mi_X7_isCell.2.1 1 = .ok (.iconst 0, 1) := by decide +kernel
theorem dX7_isCell_2 : decode mi_X7_isCell.2.1 2 = .ok (.aload_n 0, 1) := by decide +kernel
theorem dX7_isCell_3 : decode mi_X7_isCell.2.1 3 = .ok (.getfield 7, 3) := by decide +kernel
theorem dX7_isCell_6 : decode mi_X7_isCell.2.1 6 = .ok (.iconst 1, 1) := by decide +kernel
theorem dX7_isCell_7 : decode mi_X7_isCell.2.1 7 = .ok (.iaload, 1) := by decide +kernel
theorem dX7_isCell_8 : decode mi_X7_isCell.2.1 8 = .ok (.iconst 1, 1) := by decide +kernel
theorem dX7_isCell_9 : decode mi_X7_isCell.2.1 9 = .ok (.isub, 1) := by decide +kernel
theorem dX7_isCell_10 : decode mi_X7_isCell.2.1 10 = .ok (.invokestatic 78, 3) := by decide +kernel
theorem dX7_isCell_13 : decode mi_X7_isCell.2.1 13 = .ok (.ifCond .eq 23, 3) := by decide +kernel
theorem dX7_isCell_16 : decode mi_X7_isCell.2.1 16 = .ok (.iload_n 2, 1) := by decide +kernel
theorem dX7_isCell_17 : decode mi_X7_isCell.2.1 17 = .ok (.iconst 0, 1) := by decide +kernel
theorem dX7_isCell_18 : decode mi_X7_isCell.2.1 18 = .ok (.aload_n 0, 1) := by decide +kernel
theorem dX7_isCell_19 : decode mi_X7_isCell.2.1 19 = .ok (.getfield 7, 3) := by decide +kernel
theorem dX7_isCell_22 : decode mi_X7_isCell.2.1 22 = .ok (.iconst 1, 1) := by decide +kernel
theorem dX7_isCell_23 : decode mi_X7_isCell.2.1 23 = .ok (.iaload, 1) := by decide +kernel
theorem dX7_isCell_24 : decode mi_X7_isCell.2.1 24 = .ok (.iconst 1, 1) := by decide +kernel
theorem dX7_isCell_25 : decode mi_X7_isCell.2.1 25 = .ok (.isub, 1) := by decide +kernel
theorem dX7_isCell_26 : decode mi_X7_isCell.2.1 26 = .ok (.invokestatic 78, 3) := by decide +kernel
theorem dX7_isCell_29 : decode mi_X7_isCell.2.1 29 = .ok (.ifCond .eq 7, 3) := by decide +kernel
theorem dX7_isCell_32 : decode mi_X7_isCell.2.1 32 = .ok (.iconst 1, 1) := by decide +kernel
theorem dX7_isCell_33 : decode mi_X7_isCell.2.1 33 = .ok (.goto 4, 3) := by decide +kernel
theorem dX7_isCell_36 : decode mi_X7_isCell.2.1 36 = .ok (.iconst 0, 1) := by decide +kernel
theorem dX7_isCell_37 : decode mi_X7_isCell.2.1 37 = .ok (.ireturn, 1) := by decide +kernel
theorem dX7_orbit_0 : decode mi_X7_orbit.2.1 0 = .ok (.iconst 0, 1) := by decide +kernel
theorem dX7_orbit_1 : decode mi_X7_orbit.2.1 1 = .ok (.istore_n 2, 1) := by decide +kernel
theorem dX7_orbit_2 : decode mi_X7_orbit.2.1 2 = .ok (.iconst 0, 1) := by decide +kernel
theorem dX7_orbit_3 : decode mi_X7_orbit.2.1 3 = .ok (.istore_n 3, 1) := by decide +kernel
theorem dX7_orbit_4 : decode mi_X7_orbit.2.1 4 = .ok (.iload_n 3, 1) := by decide +kernel
theorem dX7_orbit_5 : decode mi_X7_orbit.2.1 5 = .ok (.aload_n 0, 1) := by decide +kernel
theorem dX7_orbit_6 : decode mi_X7_orbit.2.1 6 = .ok (.getfield 92, 3) := by decide +kernel
theorem dX7_orbit_9 : decode mi_X7_orbit.2.1 9 = .ok (.if_icmp .ge 25, 3) := by decide +kernel
theorem dX7_orbit_12 : decode mi_X7_orbit.2.1 12 = .ok (.iload_n 2, 1) := by decide +kernel
theorem dX7_orbit_13 : decode mi_X7_orbit.2.1 13 = .ok (.iconst 1, 1) := by decide +kernel
theorem dX7_orbit_14 : decode mi_X7_orbit.2.1 14 = .ok (.aload_n 0, 1) := by decide +kernel
theorem dX7_orbit_15 : decode mi_X7_orbit.2.1 15 = .ok (.aload_n 0, 1) := by decide +kernel
theorem dX7_orbit_16 : decode mi_X7_orbit.2.1 16 = .ok (.getfield 26, 3) := by decide +kernel
theorem dX7_orbit_19 : decode mi_X7_orbit.2.1 19 = .ok (.iload_n 3, 1) := by decide +kernel
theorem dX7_orbit_20 : decode mi_X7_orbit.2.1 20 = .ok (.iaload, 1) := by decide +kernel
theorem dX7_orbit_21 : decode mi_X7_orbit.2.1 21 = .ok (.iload_n 1, 1) := by decide +kernel
theorem dX7_orbit_22 : decode mi_X7_orbit.2.1 22 = .ok (.invokevirtual 165, 3) := by decide +kernel
theorem dX7_orbit_25 : decode mi_X7_orbit.2.1 25 = .ok (.ishl, 1) := by decide +kernel
theorem dX7_orbit_26 : decode mi_X7_orbit.2.1 26 = .ok (.ior, 1) := by decide +kernel
theorem dX7_orbit_27 : decode mi_X7_orbit.2.1 27 = .ok (.istore_n 2, 1) := by decide +kernel
theorem dX7_orbit_28 : decode mi_X7_orbit.2.1 28 = .ok (.iinc 3 1, 3) := by decide +kernel
theorem dX7_orbit_31 : decode mi_X7_orbit.2.1 31 = .ok (.goto (-27), 3) := by decide +kernel
theorem dX7_orbit_34 : decode mi_X7_orbit.2.1 34 = .ok (.iload_n 2, 1) := by decide +kernel
theorem dX7_orbit_35 : decode mi_X7_orbit.2.1 35 = .ok (.ireturn, 1) := by decide +kernel
theorem dX7_many_0 : decode mi_X7_many.2.1 0 = .ok (.iconst 0, 1) := by decide +kernel
theorem dX7_many_1 : decode mi_X7_many.2.1 1 = .ok (.istore_n 1, 1) := by decide +kernel
theorem dX7_many_2 : decode mi_X7_many.2.1 2 = .ok (.iconst 0, 1) := by decide +kernel
theorem dX7_many_3 : decode mi_X7_many.2.1 3 = .ok (.istore_n 2, 1) := by decide +kernel
theorem dX7_many_4 : decode mi_X7_many.2.1 4 = .ok (.iload_n 2, 1) := by decide +kernel
theorem dX7_many_5 : decode mi_X7_many.2.1 5 = .ok (.bipush 25, 2) := by decide +kernel
theorem dX7_many_7 : decode mi_X7_many.2.1 7 = .ok (.if_icmp .ge 17, 3) := by decide +kernel
theorem dX7_many_10 : decode mi_X7_many.2.1 10 = .ok (.iload_n 1, 1) := by decide +kernel
theorem dX7_many_11 : decode mi_X7_many.2.1 11 = .ok (.iload_n 0, 1) := by decide +kernel
theorem dX7_many_12 : decode mi_X7_many.2.1 12 = .ok (.iload_n 2, 1) := by decide +kernel
theorem dX7_many_13 : decode mi_X7_many.2.1 13 = .ok (.ishr, 1) := by decide +kernel
theorem dX7_many_14 : decode mi_X7_many.2.1 14 = .ok (.iconst 1, 1) := by decide +kernel
theorem dX7_many_15 : decode mi_X7_many.2.1 15 = .ok (.iand, 1) := by decide +kernel
theorem dX7_many_16 : decode mi_X7_many.2.1 16 = .ok (.iadd, 1) := by decide +kernel
theorem dX7_many_17 : decode mi_X7_many.2.1 17 = .ok (.istore_n 1, 1) := by decide +kernel
theorem dX7_many_18 : decode mi_X7_many.2.1 18 = .ok (.iinc 2 1, 3) := by decide +kernel
theorem dX7_many_21 : decode mi_X7_many.2.1 21 = .ok (.goto (-17), 3) := by decide +kernel
theorem dX7_many_24 : decode mi_X7_many.2.1 24 = .ok (.iload_n 1, 1) := by decide +kernel
theorem dX7_many_25 : decode mi_X7_many.2.1 25 = .ok (.ireturn, 1) := by decide +kernel
theorem dX7_first_0 : decode mi_X7_first.2.1 0 = .ok (.iconst 0, 1) := by decide +kernel
theorem dX7_first_1 : decode mi_X7_first.2.1 1 = .ok (.istore_n 1, 1) := by decide +kernel
theorem dX7_first_2 : decode mi_X7_first.2.1 2 = .ok (.iload_n 0, 1) := by decide +kernel
theorem dX7_first_3 : decode mi_X7_first.2.1 3 = .ok (.iload_n 1, 1) := by decide +kernel
theorem dX7_first_4 : decode mi_X7_first.2.1 4 = .ok (.ishr, 1) := by decide +kernel
theorem dX7_first_5 : decode mi_X7_first.2.1 5 = .ok (.iconst 1, 1) := by decide +kernel
theorem dX7_first_6 : decode mi_X7_first.2.1 6 = .ok (.iand, 1) := by decide +kernel
theorem dX7_first_7 : decode mi_X7_first.2.1 7 = .ok (.ifCond .ne 9, 3) := by decide +kernel
theorem dX7_first_10 : decode mi_X7_first.2.1 10 = .ok (.iinc 1 1, 3) := by decide +kernel
theorem dX7_first_13 : decode mi_X7_first.2.1 13 = .ok (.goto (-11), 3) := by decide +kernel
theorem dX7_first_16 : decode mi_X7_first.2.1 16 = .ok (.iload_n 1, 1) := by decide +kernel
theorem dX7_first_17 : decode mi_X7_first.2.1 17 = .ok (.ireturn, 1) := by decide +kernel
theorem dX7_orbitSize_0 : decode mi_X7_orbitSize.2.1 0 = .ok (.aload_n 0, 1) := by decide +kernel
theorem dX7_orbitSize_1 : decode mi_X7_orbitSize.2.1 1 = .ok (.iload_n 1, 1) := by decide +kernel
theorem dX7_orbitSize_2 : decode mi_X7_orbitSize.2.1 2 = .ok (.iload_n 2, 1) := by decide +kernel
theorem dX7_orbitSize_3 : decode mi_X7_orbitSize.2.1 3 = .ok (.invokevirtual 168, 3) := by decide +kernel
theorem dX7_orbitSize_6 : decode mi_X7_orbitSize.2.1 6 = .ok (.ifCond .eq 23, 3) := by decide +kernel
theorem dX7_orbitSize_9 : decode mi_X7_orbitSize.2.1 9 = .ok (.aload_n 0, 1) := by decide +kernel
theorem dX7_orbitSize_10 : decode mi_X7_orbitSize.2.1 10 = .ok (.aload_n 0, 1) := by decide +kernel
theorem dX7_orbitSize_11 : decode mi_X7_orbitSize.2.1 11 = .ok (.getfield 7, 3) := by decide +kernel
theorem dX7_orbitSize_14 : decode mi_X7_orbitSize.2.1 14 = .ok (.iconst 1, 1) := by decide +kernel
theorem dX7_orbitSize_15 : decode mi_X7_orbitSize.2.1 15 = .ok (.iaload, 1) := by decide +kernel
theorem dX7_orbitSize_16 : decode mi_X7_orbitSize.2.1 16 = .ok (.iload_n 1, 1) := by decide +kernel
theorem dX7_orbitSize_17 : decode mi_X7_orbitSize.2.1 17 = .ok (.imul, 1) := by decide +kernel
theorem dX7_orbitSize_18 : decode mi_X7_orbitSize.2.1 18 = .ok (.iload_n 2, 1) := by decide +kernel
theorem dX7_orbitSize_19 : decode mi_X7_orbitSize.2.1 19 = .ok (.iadd, 1) := by decide +kernel
theorem dX7_orbitSize_20 : decode mi_X7_orbitSize.2.1 20 = .ok (.invokevirtual 171, 3) := by decide +kernel
theorem dX7_orbitSize_23 : decode mi_X7_orbitSize.2.1 23 = .ok (.invokestatic 174, 3) := by decide +kernel
theorem dX7_orbitSize_26 : decode mi_X7_orbitSize.2.1 26 = .ok (.goto 4, 3) := by decide +kernel
theorem dX7_orbitSize_29 : decode mi_X7_orbitSize.2.1 29 = .ok (.iconst (-1), 1) := by decide +kernel
theorem dX7_orbitSize_30 : decode mi_X7_orbitSize.2.1 30 = .ok (.ireturn, 1) := by decide +kernel
theorem dX7_orbitFirst_0 : decode mi_X7_orbitFirst.2.1 0 = .ok (.aload_n 0, 1) := by decide +kernel
theorem dX7_orbitFirst_1 : decode mi_X7_orbitFirst.2.1 1 = .ok (.iload_n 1, 1) := by decide +kernel
theorem dX7_orbitFirst_2 : decode mi_X7_orbitFirst.2.1 2 = .ok (.iload_n 2, 1) := by decide +kernel
theorem dX7_orbitFirst_3 : decode mi_X7_orbitFirst.2.1 3 = .ok (.invokevirtual 168, 3) := by decide +kernel
theorem dX7_orbitFirst_6 : decode mi_X7_orbitFirst.2.1 6 = .ok (.ifCond .eq 23, 3) := by decide +kernel
theorem dX7_orbitFirst_9 : decode mi_X7_orbitFirst.2.1 9 = .ok (.aload_n 0, 1) := by decide +kernel
theorem dX7_orbitFirst_10 : decode mi_X7_orbitFirst.2.1 10 = .ok (.aload_n 0, 1) := by decide +kernel
theorem dX7_orbitFirst_11 : decode mi_X7_orbitFirst.2.1 11 = .ok (.getfield 7, 3) := by decide +kernel
theorem dX7_orbitFirst_14 : decode mi_X7_orbitFirst.2.1 14 = .ok (.iconst 1, 1) := by decide +kernel
theorem dX7_orbitFirst_15 : decode mi_X7_orbitFirst.2.1 15 = .ok (.iaload, 1) := by decide +kernel
theorem dX7_orbitFirst_16 : decode mi_X7_orbitFirst.2.1 16 = .ok (.iload_n 1, 1) := by decide +kernel
theorem dX7_orbitFirst_17 : decode mi_X7_orbitFirst.2.1 17 = .ok (.imul, 1) := by decide +kernel
theorem dX7_orbitFirst_18 : decode mi_X7_orbitFirst.2.1 18 = .ok (.iload_n 2, 1) := by decide +kernel
theorem dX7_orbitFirst_19 : decode mi_X7_orbitFirst.2.1 19 = .ok (.iadd, 1) := by decide +kernel
theorem dX7_orbitFirst_20 : decode mi_X7_orbitFirst.2.1 20 = .ok (.invokevirtual 171, 3) := by decide +kernel
theorem dX7_orbitFirst_23 : decode mi_X7_orbitFirst.2.1 23 = .ok (.invokestatic 177, 3) := by decide +kernel
theorem dX7_orbitFirst_26 : decode mi_X7_orbitFirst.2.1 26 = .ok (.goto 4, 3) := by decide +kernel
theorem dX7_orbitFirst_29 : decode mi_X7_orbitFirst.2.1 29 = .ok (.iconst (-1), 1) := by decide +kernel
theorem dX7_orbitFirst_30 : decode mi_X7_orbitFirst.2.1 30 = .ok (.ireturn, 1) := by decide +kernel
theorem dX7_stabilizer_0 : decode mi_X7_stabilizer.2.1 0 = .ok (.iconst 0, 1) := by decide +kernel
theorem dX7_stabilizer_1 : decode mi_X7_stabilizer.2.1 1 = .ok (.istore_n 2, 1) := by decide +kernel
theorem dX7_stabilizer_2 : decode mi_X7_stabilizer.2.1 2 = .ok (.iconst 0, 1) := by decide +kernel
theorem dX7_stabilizer_3 : decode mi_X7_stabilizer.2.1 3 = .ok (.istore_n 3, 1) := by decide +kernel
theorem dX7_stabilizer_4 : decode mi_X7_stabilizer.2.1 4 = .ok (.iload_n 3, 1) := by decide +kernel
theorem dX7_stabilizer_5 : decode mi_X7_stabilizer.2.1 5 = .ok (.aload_n 0, 1) := by decide +kernel
theorem dX7_stabilizer_6 : decode mi_X7_stabilizer.2.1 6 = .ok (.getfield 92, 3) := by decide +kernel
theorem dX7_stabilizer_9 : decode mi_X7_stabilizer.2.1 9 = .ok (.if_icmp .ge 32, 3) := by decide +kernel
theorem dX7_stabilizer_12 : decode mi_X7_stabilizer.2.1 12 = .ok (.iload_n 2, 1) := by decide +kernel
theorem dX7_stabilizer_13 : decode mi_X7_stabilizer.2.1 13 = .ok (.aload_n 0, 1) := by decide +kernel
theorem dX7_stabilizer_14 : decode mi_X7_stabilizer.2.1 14 = .ok (.aload_n 0, 1) := by decide +kernel
theorem dX7_stabilizer_15 : decode mi_X7_stabilizer.2.1 15 = .ok (.getfield 26, 3) := by decide +kernel
theorem dX7_stabilizer_18 : decode mi_X7_stabilizer.2.1 18 = .ok (.iload_n 3, 1) := by decide +kernel
theorem dX7_stabilizer_19 : decode mi_X7_stabilizer.2.1 19 = .ok (.iaload, 1) := by decide +kernel
theorem dX7_stabilizer_20 : decode mi_X7_stabilizer.2.1 20 = .ok (.iload_n 1, 1) := by decide +kernel
theorem dX7_stabilizer_21 : decode mi_X7_stabilizer.2.1 21 = .ok (.invokevirtual 165, 3) := by decide +kernel
theorem dX7_stabilizer_24 : decode mi_X7_stabilizer.2.1 24 = .ok (.iload_n 1, 1) := by decide +kernel
theorem dX7_stabilizer_25 : decode mi_X7_stabilizer.2.1 25 = .ok (.if_icmp .ne 7, 3) := by decide +kernel
theorem dX7_stabilizer_28 : decode mi_X7_stabilizer.2.1 28 = .ok (.iconst 1, 1) := by decide +kernel
theorem dX7_stabilizer_29 : decode mi_X7_stabilizer.2.1 29 = .ok (.goto 4, 3) := by decide +kernel
theorem dX7_stabilizer_32 : decode mi_X7_stabilizer.2.1 32 = .ok (.iconst 0, 1) := by decide +kernel
theorem dX7_stabilizer_33 : decode mi_X7_stabilizer.2.1 33 = .ok (.iadd, 1) := by decide +kernel
theorem dX7_stabilizer_34 : decode mi_X7_stabilizer.2.1 34 = .ok (.istore_n 2, 1) := by decide +kernel
theorem dX7_stabilizer_35 : decode mi_X7_stabilizer.2.1 35 = .ok (.iinc 3 1, 3) := by decide +kernel
theorem dX7_stabilizer_38 : decode mi_X7_stabilizer.2.1 38 = .ok (.goto (-34), 3) := by decide +kernel
theorem dX7_stabilizer_41 : decode mi_X7_stabilizer.2.1 41 = .ok (.iload_n 2, 1) := by decide +kernel
theorem dX7_stabilizer_42 : decode mi_X7_stabilizer.2.1 42 = .ok (.ireturn, 1) := by decide +kernel
theorem dX7_stabilizerOrder_0 : decode mi_X7_stabilizerOrder.2.1 0 = .ok (.aload_n 0, 1) := by decide +kernel
theorem dX7_stabilizerOrder_1 : decode mi_X7_stabilizerOrder.2.1 1 = .ok (.iload_n 1, 1) := by decide +kernel
theorem dX7_stabilizerOrder_2 : decode mi_X7_stabilizerOrder.2.1 2 = .ok (.iload_n 2, 1) := by decide +kernel
theorem dX7_stabilizerOrder_3 : decode mi_X7_stabilizerOrder.2.1 3 = .ok (.invokevirtual 168, 3) := by decide +kernel
theorem dX7_stabilizerOrder_6 : decode mi_X7_stabilizerOrder.2.1 6 = .ok (.ifCond .eq 20, 3) := by decide +kernel
theorem dX7_stabilizerOrder_9 : decode mi_X7_stabilizerOrder.2.1 9 = .ok (.aload_n 0, 1) := by decide +kernel
theorem dX7_stabilizerOrder_10 : decode mi_X7_stabilizerOrder.2.1 10 = .ok (.aload_n 0, 1) := by decide +kernel
theorem dX7_stabilizerOrder_11 : decode mi_X7_stabilizerOrder.2.1 11 = .ok (.getfield 7, 3) := by decide +kernel
theorem dX7_stabilizerOrder_14 : decode mi_X7_stabilizerOrder.2.1 14 = .ok (.iconst 1, 1) := by decide +kernel
theorem dX7_stabilizerOrder_15 : decode mi_X7_stabilizerOrder.2.1 15 = .ok (.iaload, 1) := by decide +kernel
theorem dX7_stabilizerOrder_16 : decode mi_X7_stabilizerOrder.2.1 16 = .ok (.iload_n 1, 1) := by decide +kernel
theorem dX7_stabilizerOrder_17 : decode mi_X7_stabilizerOrder.2.1 17 = .ok (.imul, 1) := by decide +kernel
theorem dX7_stabilizerOrder_18 : decode mi_X7_stabilizerOrder.2.1 18 = .ok (.iload_n 2, 1) := by decide +kernel
theorem dX7_stabilizerOrder_19 : decode mi_X7_stabilizerOrder.2.1 19 = .ok (.iadd, 1) := by decide +kernel
theorem dX7_stabilizerOrder_20 : decode mi_X7_stabilizerOrder.2.1 20 = .ok (.invokevirtual 180, 3) := by decide +kernel
theorem dX7_stabilizerOrder_23 : decode mi_X7_stabilizerOrder.2.1 23 = .ok (.goto 4, 3) := by decide +kernel
theorem dX7_stabilizerOrder_26 : decode mi_X7_stabilizerOrder.2.1 26 = .ok (.iconst (-1), 1) := by decide +kernel
theorem dX7_stabilizerOrder_27 : decode mi_X7_stabilizerOrder.2.1 27 = .ok (.ireturn, 1) := by decide +kernel
theorem dX7_orbits_0 : decode mi_X7_orbits.2.1 0 = .ok (.iconst 0, 1) := by decide +kernel
theorem dX7_orbits_1 : decode mi_X7_orbits.2.1 1 = .ok (.istore_n 1, 1) := by decide +kernel
theorem dX7_orbits_2 : decode mi_X7_orbits.2.1 2 = .ok (.iconst 0, 1) := by decide +kernel
theorem dX7_orbits_3 : decode mi_X7_orbits.2.1 3 = .ok (.istore_n 2, 1) := by decide +kernel
theorem dX7_orbits_4 : decode mi_X7_orbits.2.1 4 = .ok (.iload_n 2, 1) := by decide +kernel
theorem dX7_orbits_5 : decode mi_X7_orbits.2.1 5 = .ok (.aload_n 0, 1) := by decide +kernel
theorem dX7_orbits_6 : decode mi_X7_orbits.2.1 6 = .ok (.invokevirtual 51, 3) := by decide +kernel
theorem dX7_orbits_9 : decode mi_X7_orbits.2.1 9 = .ok (.if_icmp .ge 29, 3) := by decide +kernel
theorem dX7_orbits_12 : decode mi_X7_orbits.2.1 12 = .ok (.iload_n 1, 1) := by decide +kernel
theorem dX7_orbits_13 : decode mi_X7_orbits.2.1 13 = .ok (.aload_n 0, 1) := by decide +kernel
theorem dX7_orbits_14 : decode mi_X7_orbits.2.1 14 = .ok (.iload_n 2, 1) := by decide +kernel
theorem dX7_orbits_15 : decode mi_X7_orbits.2.1 15 = .ok (.invokevirtual 171, 3) := by decide +kernel
theorem dX7_orbits_18 : decode mi_X7_orbits.2.1 18 = .ok (.invokestatic 177, 3) := by decide +kernel
theorem dX7_orbits_21 : decode mi_X7_orbits.2.1 21 = .ok (.iload_n 2, 1) := by decide +kernel
theorem dX7_orbits_22 : decode mi_X7_orbits.2.1 22 = .ok (.if_icmp .ne 7, 3) := by decide +kernel
theorem dX7_orbits_25 : decode mi_X7_orbits.2.1 25 = .ok (.iconst 1, 1) := by decide +kernel
theorem dX7_orbits_26 : decode mi_X7_orbits.2.1 26 = .ok (.goto 4, 3) := by decide +kernel
theorem dX7_orbits_29 : decode mi_X7_orbits.2.1 29 = .ok (.iconst 0, 1) := by decide +kernel
theorem dX7_orbits_30 : decode mi_X7_orbits.2.1 30 = .ok (.iadd, 1) := by decide +kernel
theorem dX7_orbits_31 : decode mi_X7_orbits.2.1 31 = .ok (.istore_n 1, 1) := by decide +kernel
theorem dX7_orbits_32 : decode mi_X7_orbits.2.1 32 = .ok (.iinc 2 1, 3) := by decide +kernel
theorem dX7_orbits_35 : decode mi_X7_orbits.2.1 35 = .ok (.goto (-31), 3) := by decide +kernel
theorem dX7_orbits_38 : decode mi_X7_orbits.2.1 38 = .ok (.iload_n 1, 1) := by decide +kernel
theorem dX7_orbits_39 : decode mi_X7_orbits.2.1 39 = .ok (.ireturn, 1) := by decide +kernel
theorem dX7_orbitCount_0 : decode mi_X7_orbitCount.2.1 0 = .ok (.aload_n 0, 1) := by decide +kernel
theorem dX7_orbitCount_1 : decode mi_X7_orbitCount.2.1 1 = .ok (.invokevirtual 183, 3) := by decide +kernel
theorem dX7_orbitCount_4 : decode mi_X7_orbitCount.2.1 4 = .ok (.ireturn, 1) := by decide +kernel
theorem dX7_isSymmorphic_0 : decode mi_X7_isSymmorphic.2.1 0 = .ok (.aload_n 0, 1) := by decide +kernel
theorem dX7_isSymmorphic_1 : decode mi_X7_isSymmorphic.2.1 1 = .ok (.iconst 0, 1) := by decide +kernel
theorem dX7_isSymmorphic_2 : decode mi_X7_isSymmorphic.2.1 2 = .ok (.invokevirtual 126, 3) := by decide +kernel
theorem dX7_isSymmorphic_5 : decode mi_X7_isSymmorphic.2.1 5 = .ok (.invokestatic 130, 3) := by decide +kernel
theorem dX7_isSymmorphic_8 : decode mi_X7_isSymmorphic.2.1 8 = .ok (.istore_n 1, 1) := by decide +kernel
theorem dX7_isSymmorphic_9 : decode mi_X7_isSymmorphic.2.1 9 = .ok (.iconst 0, 1) := by decide +kernel
theorem dX7_isSymmorphic_10 : decode mi_X7_isSymmorphic.2.1 10 = .ok (.istore_n 2, 1) := by decide +kernel
theorem dX7_isSymmorphic_11 : decode mi_X7_isSymmorphic.2.1 11 = .ok (.iconst 0, 1) := by decide +kernel
theorem dX7_isSymmorphic_12 : decode mi_X7_isSymmorphic.2.1 12 = .ok (.istore_n 3, 1) := by decide +kernel
theorem dX7_isSymmorphic_13 : decode mi_X7_isSymmorphic.2.1 13 = .ok (.iload_n 3, 1) := by decide +kernel
theorem dX7_isSymmorphic_14 : decode mi_X7_isSymmorphic.2.1 14 = .ok (.aload_n 0, 1) := by decide +kernel
theorem dX7_isSymmorphic_15 : decode mi_X7_isSymmorphic.2.1 15 = .ok (.invokevirtual 51, 3) := by decide +kernel
theorem dX7_isSymmorphic_18 : decode mi_X7_isSymmorphic.2.1 18 = .ok (.if_icmp .ge 28, 3) := by decide +kernel
theorem dX7_isSymmorphic_21 : decode mi_X7_isSymmorphic.2.1 21 = .ok (.iload_n 2, 1) := by decide +kernel
theorem dX7_isSymmorphic_22 : decode mi_X7_isSymmorphic.2.1 22 = .ok (.ifCond .ne 12, 3) := by decide +kernel
theorem dX7_isSymmorphic_25 : decode mi_X7_isSymmorphic.2.1 25 = .ok (.aload_n 0, 1) := by decide +kernel
theorem dX7_isSymmorphic_26 : decode mi_X7_isSymmorphic.2.1 26 = .ok (.iload_n 3, 1) := by decide +kernel
theorem dX7_isSymmorphic_27 : decode mi_X7_isSymmorphic.2.1 27 = .ok (.invokevirtual 180, 3) := by decide +kernel
theorem dX7_isSymmorphic_30 : decode mi_X7_isSymmorphic.2.1 30 = .ok (.iload_n 1, 1) := by decide +kernel
theorem dX7_isSymmorphic_31 : decode mi_X7_isSymmorphic.2.1 31 = .ok (.if_icmp .ne 7, 3) := by decide +kernel
theorem dX7_isSymmorphic_34 : decode mi_X7_isSymmorphic.2.1 34 = .ok (.iconst 1, 1) := by decide +kernel
theorem dX7_isSymmorphic_35 : decode mi_X7_isSymmorphic.2.1 35 = .ok (.goto 4, 3) := by decide +kernel
theorem dX7_isSymmorphic_38 : decode mi_X7_isSymmorphic.2.1 38 = .ok (.iconst 0, 1) := by decide +kernel
theorem dX7_isSymmorphic_39 : decode mi_X7_isSymmorphic.2.1 39 = .ok (.istore_n 2, 1) := by decide +kernel
theorem dX7_isSymmorphic_40 : decode mi_X7_isSymmorphic.2.1 40 = .ok (.iinc 3 1, 3) := by decide +kernel
theorem dX7_isSymmorphic_43 : decode mi_X7_isSymmorphic.2.1 43 = .ok (.goto (-30), 3) := by decide +kernel
theorem dX7_isSymmorphic_46 : decode mi_X7_isSymmorphic.2.1 46 = .ok (.iload_n 2, 1) := by decide +kernel
theorem dX7_isSymmorphic_47 : decode mi_X7_isSymmorphic.2.1 47 = .ok (.ifCond .eq 7, 3) := by decide +kernel
theorem dX7_isSymmorphic_50 : decode mi_X7_isSymmorphic.2.1 50 = .ok (.iconst 1, 1) := by decide +kernel
theorem dX7_isSymmorphic_51 : decode mi_X7_isSymmorphic.2.1 51 = .ok (.goto 4, 3) := by decide +kernel
theorem dX7_isSymmorphic_54 : decode mi_X7_isSymmorphic.2.1 54 = .ok (.iconst 0, 1) := by decide +kernel
theorem dX7_isSymmorphic_55 : decode mi_X7_isSymmorphic.2.1 55 = .ok (.ireturn, 1) := by decide +kernel
theorem dX7_power_0 : decode mi_X7_power.2.1 0 = .ok (.lconst 1, 1) := by decide +kernel
theorem dX7_power_1 : decode mi_X7_power.2.1 1 = .ok (.lstore_n 2, 1) := by decide +kernel
theorem dX7_power_2 : decode mi_X7_power.2.1 2 = .ok (.iconst 0, 1) := by decide +kernel
theorem dX7_power_3 : decode mi_X7_power.2.1 3 = .ok (.istore 4, 2) := by decide +kernel
theorem dX7_power_5 : decode mi_X7_power.2.1 5 = .ok (.iload 4, 2) := by decide +kernel
theorem dX7_power_7 : decode mi_X7_power.2.1 7 = .ok (.iload_n 1, 1) := by decide +kernel
theorem dX7_power_8 : decode mi_X7_power.2.1 8 = .ok (.if_icmp .ge 14, 3) := by decide +kernel
theorem dX7_power_11 : decode mi_X7_power.2.1 11 = .ok (.lload_n 2, 1) := by decide +kernel
theorem dX7_power_12 : decode mi_X7_power.2.1 12 = .ok (.iload_n 0, 1) := by decide +kernel
theorem dX7_power_13 : decode mi_X7_power.2.1 13 = .ok (.i2l, 1) := by decide +kernel
theorem dX7_power_14 : decode mi_X7_power.2.1 14 = .ok (.lmul, 1) := by decide +kernel
theorem dX7_power_15 : decode mi_X7_power.2.1 15 = .ok (.lstore_n 2, 1) := by decide +kernel
theorem dX7_power_16 : decode mi_X7_power.2.1 16 = .ok (.iinc 4 1, 3) := by decide +kernel
theorem dX7_power_19 : decode mi_X7_power.2.1 19 = .ok (.goto (-14), 3) := by decide +kernel
theorem dX7_power_22 : decode mi_X7_power.2.1 22 = .ok (.lload_n 2, 1) := by decide +kernel
theorem dX7_power_23 : decode mi_X7_power.2.1 23 = .ok (.lreturn, 1) := by decide +kernel
theorem dX7_invariantColorings_0 : decode mi_X7_invariantColorings.2.1 0 = .ok (.iload_n 1, 1) := by decide +kernel
theorem dX7_invariantColorings_1 : decode mi_X7_invariantColorings.2.1 1 = .ok (.iconst 1, 1) := by decide +kernel
theorem dX7_invariantColorings_2 : decode mi_X7_invariantColorings.2.1 2 = .ok (.iconst 4, 1) := by decide +kernel
theorem dX7_invariantColorings_3 : decode mi_X7_invariantColorings.2.1 3 = .ok (.invokestatic 78, 3) := by decide +kernel
theorem dX7_invariantColorings_6 : decode mi_X7_invariantColorings.2.1 6 = .ok (.ifCond .eq 14, 3) := by decide +kernel
theorem dX7_invariantColorings_9 : decode mi_X7_invariantColorings.2.1 9 = .ok (.iload_n 1, 1) := by decide +kernel
theorem dX7_invariantColorings_10 : decode mi_X7_invariantColorings.2.1 10 = .ok (.aload_n 0, 1) := by decide +kernel
theorem dX7_invariantColorings_11 : decode mi_X7_invariantColorings.2.1 11 = .ok (.invokevirtual 183, 3) := by decide +kernel
theorem dX7_invariantColorings_14 : decode mi_X7_invariantColorings.2.1 14 = .ok (.invokestatic 186, 3) := by decide +kernel
theorem dX7_invariantColorings_17 : decode mi_X7_invariantColorings.2.1 17 = .ok (.goto 6, 3) := by decide +kernel
theorem dX7_invariantColorings_20 : decode mi_X7_invariantColorings.2.1 20 = .ok (.ldc2_w 190, 3) := by decide +kernel
theorem dX7_invariantColorings_23 : decode mi_X7_invariantColorings.2.1 23 = .ok (.lreturn, 1) := by decide +kernel
theorem dX7_cycles_0 : decode mi_X7_cycles.2.1 0 = .ok (.iconst 0, 1) := by decide +kernel
theorem dX7_cycles_1 : decode mi_X7_cycles.2.1 1 = .ok (.istore_n 2, 1) := by decide +kernel
theorem dX7_cycles_2 : decode mi_X7_cycles.2.1 2 = .ok (.iconst 0, 1) := by decide +kernel
theorem dX7_cycles_3 : decode mi_X7_cycles.2.1 3 = .ok (.istore_n 3, 1) := by decide +kernel
theorem dX7_cycles_4 : decode mi_X7_cycles.2.1 4 = .ok (.iconst 0, 1) := by decide +kernel
theorem dX7_cycles_5 : decode mi_X7_cycles.2.1 5 = .ok (.istore 4, 2) := by decide +kernel
theorem dX7_cycles_7 : decode mi_X7_cycles.2.1 7 = .ok (.iload 4, 2) := by decide +kernel
theorem dX7_cycles_9 : decode mi_X7_cycles.2.1 9 = .ok (.aload_n 0, 1) := by decide +kernel
theorem dX7_cycles_10 : decode mi_X7_cycles.2.1 10 = .ok (.invokevirtual 51, 3) := by decide +kernel
theorem dX7_cycles_13 : decode mi_X7_cycles.2.1 13 = .ok (.if_icmp .ge 58, 3) := by decide +kernel
theorem dX7_cycles_16 : decode mi_X7_cycles.2.1 16 = .ok (.iload_n 3, 1) := by decide +kernel
theorem dX7_cycles_17 : decode mi_X7_cycles.2.1 17 = .ok (.iload_n 2, 1) := by decide +kernel
theorem dX7_cycles_18 : decode mi_X7_cycles.2.1 18 = .ok (.iload 4, 2) := by decide +kernel
theorem dX7_cycles_20 : decode mi_X7_cycles.2.1 20 = .ok (.ishr, 1) := by decide +kernel
theorem dX7_cycles_21 : decode mi_X7_cycles.2.1 21 = .ok (.iconst 1, 1) := by decide +kernel
theorem dX7_cycles_22 : decode mi_X7_cycles.2.1 22 = .ok (.iand, 1) := by decide +kernel
theorem dX7_cycles_23 : decode mi_X7_cycles.2.1 23 = .ok (.ifCond .ne 7, 3) := by decide +kernel
theorem dX7_cycles_26 : decode mi_X7_cycles.2.1 26 = .ok (.iconst 1, 1) := by decide +kernel
theorem dX7_cycles_27 : decode mi_X7_cycles.2.1 27 = .ok (.goto 4, 3) := by decide +kernel
theorem dX7_cycles_30 : decode mi_X7_cycles.2.1 30 = .ok (.iconst 0, 1) := by decide +kernel
theorem dX7_cycles_31 : decode mi_X7_cycles.2.1 31 = .ok (.iadd, 1) := by decide +kernel
theorem dX7_cycles_32 : decode mi_X7_cycles.2.1 32 = .ok (.istore_n 3, 1) := by decide +kernel
theorem dX7_cycles_33 : decode mi_X7_cycles.2.1 33 = .ok (.iload 4, 2) := by decide +kernel
theorem dX7_cycles_35 : decode mi_X7_cycles.2.1 35 = .ok (.istore 5, 2) := by decide +kernel
theorem dX7_cycles_37 : decode mi_X7_cycles.2.1 37 = .ok (.iload_n 2, 1) := by decide +kernel
theorem dX7_cycles_38 : decode mi_X7_cycles.2.1 38 = .ok (.iload 5, 2) := by decide +kernel
theorem dX7_cycles_40 : decode mi_X7_cycles.2.1 40 = .ok (.ishr, 1) := by decide +kernel
theorem dX7_cycles_41 : decode mi_X7_cycles.2.1 41 = .ok (.iconst 1, 1) := by decide +kernel
theorem dX7_cycles_42 : decode mi_X7_cycles.2.1 42 = .ok (.iand, 1) := by decide +kernel
theorem dX7_cycles_43 : decode mi_X7_cycles.2.1 43 = .ok (.ifCond .ne 22, 3) := by decide +kernel
theorem dX7_cycles_46 : decode mi_X7_cycles.2.1 46 = .ok (.iload_n 2, 1) := by decide +kernel
theorem dX7_cycles_47 : decode mi_X7_cycles.2.1 47 = .ok (.iconst 1, 1) := by decide +kernel
theorem dX7_cycles_48 : decode mi_X7_cycles.2.1 48 = .ok (.iload 5, 2) := by decide +kernel
theorem dX7_cycles_50 : decode mi_X7_cycles.2.1 50 = .ok (.ishl, 1) := by decide +kernel
theorem dX7_cycles_51 : decode mi_X7_cycles.2.1 51 = .ok (.ior, 1) := by decide +kernel
theorem dX7_cycles_52 : decode mi_X7_cycles.2.1 52 = .ok (.istore_n 2, 1) := by decide +kernel
theorem dX7_cycles_53 : decode mi_X7_cycles.2.1 53 = .ok (.aload_n 0, 1) := by decide +kernel
theorem dX7_cycles_54 : decode mi_X7_cycles.2.1 54 = .ok (.iload_n 1, 1) := by decide +kernel
theorem dX7_cycles_55 : decode mi_X7_cycles.2.1 55 = .ok (.iload 5, 2) := by decide +kernel
theorem dX7_cycles_57 : decode mi_X7_cycles.2.1 57 = .ok (.invokevirtual 165, 3) := by decide +kernel
theorem dX7_cycles_60 : decode mi_X7_cycles.2.1 60 = .ok (.istore 5, 2) := by decide +kernel
theorem dX7_cycles_62 : decode mi_X7_cycles.2.1 62 = .ok (.goto (-25), 3) := by decide +kernel
theorem dX7_cycles_65 : decode mi_X7_cycles.2.1 65 = .ok (.iinc 4 1, 3) := by decide +kernel
theorem dX7_cycles_68 : decode mi_X7_cycles.2.1 68 = .ok (.goto (-61), 3) := by decide +kernel
theorem dX7_cycles_71 : decode mi_X7_cycles.2.1 71 = .ok (.iload_n 3, 1) := by decide +kernel
theorem dX7_cycles_72 : decode mi_X7_cycles.2.1 72 = .ok (.ireturn, 1) := by decide +kernel
theorem dX7_coloringClasses_0 : decode mi_X7_coloringClasses.2.1 0 = .ok (.iload_n 1, 1) := by decide +kernel
theorem dX7_coloringClasses_1 : decode mi_X7_coloringClasses.2.1 1 = .ok (.iconst 1, 1) := by decide +kernel
theorem dX7_coloringClasses_2 : decode mi_X7_coloringClasses.2.1 2 = .ok (.iconst 4, 1) := by decide +kernel
theorem dX7_coloringClasses_3 : decode mi_X7_coloringClasses.2.1 3 = .ok (.invokestatic 78, 3) := by decide +kernel
theorem dX7_coloringClasses_6 : decode mi_X7_coloringClasses.2.1 6 = .ok (.ifCond .ne 7, 3) := by decide +kernel
theorem dX7_coloringClasses_9 : decode mi_X7_coloringClasses.2.1 9 = .ok (.ldc2_w 190, 3) := by decide +kernel
theorem dX7_coloringClasses_12 : decode mi_X7_coloringClasses.2.1 12 = .ok (.lreturn, 1) := by decide +kernel
theorem dX7_coloringClasses_13 : decode mi_X7_coloringClasses.2.1 13 = .ok (.lconst 0, 1) := by decide +kernel
theorem dX7_coloringClasses_14 : decode mi_X7_coloringClasses.2.1 14 = .ok (.lstore_n 2, 1) := by decide +kernel
theorem dX7_coloringClasses_15 : decode mi_X7_coloringClasses.2.1 15 = .ok (.iconst 0, 1) := by decide +kernel
theorem dX7_coloringClasses_16 : decode mi_X7_coloringClasses.2.1 16 = .ok (.istore 4, 2) := by decide +kernel
theorem dX7_coloringClasses_18 : decode mi_X7_coloringClasses.2.1 18 = .ok (.iload 4, 2) := by decide +kernel
theorem dX7_coloringClasses_20 : decode mi_X7_coloringClasses.2.1 20 = .ok (.aload_n 0, 1) := by decide +kernel
theorem dX7_coloringClasses_21 : decode mi_X7_coloringClasses.2.1 21 = .ok (.getfield 92, 3) := by decide +kernel
theorem dX7_coloringClasses_24 : decode mi_X7_coloringClasses.2.1 24 = .ok (.if_icmp .ge 27, 3) := by decide +kernel
theorem dX7_coloringClasses_27 : decode mi_X7_coloringClasses.2.1 27 = .ok (.lload_n 2, 1) := by decide +kernel
theorem dX7_coloringClasses_28 : decode mi_X7_coloringClasses.2.1 28 = .ok (.iload_n 1, 1) := by decide +kernel
theorem dX7_coloringClasses_29 : decode mi_X7_coloringClasses.2.1 29 = .ok (.aload_n 0, 1) := by decide +kernel
theorem dX7_coloringClasses_30 : decode mi_X7_coloringClasses.2.1 30 = .ok (.aload_n 0, 1) := by decide +kernel
theorem dX7_coloringClasses_31 : decode mi_X7_coloringClasses.2.1 31 = .ok (.getfield 26, 3) := by decide +kernel
theorem dX7_coloringClasses_34 : decode mi_X7_coloringClasses.2.1 34 = .ok (.iload 4, 2) := by decide +kernel
theorem dX7_coloringClasses_36 : decode mi_X7_coloringClasses.2.1 36 = .ok (.iaload, 1) := by decide +kernel
theorem dX7_coloringClasses_37 : decode mi_X7_coloringClasses.2.1 37 = .ok (.invokevirtual 192, 3) := by decide +kernel
theorem dX7_coloringClasses_40 : decode mi_X7_coloringClasses.2.1 40 = .ok (.invokestatic 186, 3) := by decide +kernel
theorem dX7_coloringClasses_43 : decode mi_X7_coloringClasses.2.1 43 = .ok (.ladd, 1) := by decide +kernel
theorem dX7_coloringClasses_44 : decode mi_X7_coloringClasses.2.1 44 = .ok (.lstore_n 2, 1) := by decide +kernel
theorem dX7_coloringClasses_45 : decode mi_X7_coloringClasses.2.1 45 = .ok (.iinc 4 1, 3) := by decide +kernel
theorem dX7_coloringClasses_48 : decode mi_X7_coloringClasses.2.1 48 = .ok (.goto (-30), 3) := by decide +kernel
theorem dX7_coloringClasses_51 : decode mi_X7_coloringClasses.2.1 51 = .ok (.lload_n 2, 1) := by decide +kernel
theorem dX7_coloringClasses_52 : decode mi_X7_coloringClasses.2.1 52 = .ok (.aload_n 0, 1) := by decide +kernel
theorem dX7_coloringClasses_53 : decode mi_X7_coloringClasses.2.1 53 = .ok (.getfield 92, 3) := by decide +kernel
theorem dX7_coloringClasses_56 : decode mi_X7_coloringClasses.2.1 56 = .ok (.i2l, 1) := by decide +kernel
theorem dX7_coloringClasses_57 : decode mi_X7_coloringClasses.2.1 57 = .ok (.ldiv, 1) := by decide +kernel
theorem dX7_coloringClasses_58 : decode mi_X7_coloringClasses.2.1 58 = .ok (.lreturn, 1) := by decide +kernel
theorem dJ9_max_7cf53_0 : decode mi_J9_max_7cf53.2.1 0 = .ok (.iload_n 0, 1) := by decide +kernel
theorem dJ9_max_7cf53_1 : decode mi_J9_max_7cf53.2.1 1 = .ok (.iload_n 1, 1) := by decide +kernel
theorem dJ9_max_7cf53_2 : decode mi_J9_max_7cf53.2.1 2 = .ok (.if_icmp .lt 7, 3) := by decide +kernel
theorem dJ9_max_7cf53_5 : decode mi_J9_max_7cf53.2.1 5 = .ok (.iload_n 0, 1) := by decide +kernel
theorem dJ9_max_7cf53_6 : decode mi_J9_max_7cf53.2.1 6 = .ok (.goto 4, 3) := by decide +kernel
theorem dJ9_max_7cf53_9 : decode mi_J9_max_7cf53.2.1 9 = .ok (.iload_n 1, 1) := by decide +kernel
theorem dJ9_max_7cf53_10 : decode mi_J9_max_7cf53.2.1 10 = .ok (.ireturn, 1) := by decide +kernel
