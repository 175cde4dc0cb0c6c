theorem dX0_findOrbits_0 : decode mi_X0_findOrbits.2.1 0 = .ok (.aload_n 0, 1) := by decide +kernel
theorem dX0_findOrbits_1 : decode mi_X0_findOrbits.2.1 1 = .ok (.getfield 18, 3) := by decide +kernel
theorem dX0_findOrbits_4 : decode mi_X0_findOrbits.2.1 4 = .ok (.invokestatic 40, 3) := by decide +kernel
theorem dX0_findOrbits_7 : decode mi_X0_findOrbits.2.1 7 = .ok (.aload_n 0, 1) := by decide +kernel
theorem dX0_findOrbits_8 : decode mi_X0_findOrbits.2.1 8 = .ok (.iconst 0, 1) := by decide +kernel
theorem dX0_findOrbits_9 : decode mi_X0_findOrbits.2.1 9 = .ok (.putfield 44, 3) := by decide +kernel
theorem dX0_findOrbits_12 : decode mi_X0_findOrbits.2.1 12 = .ok (.iconst 0, 1) := by decide +kernel
theorem dX0_findOrbits_13 : decode mi_X0_findOrbits.2.1 13 = .ok (.istore_n 1, 1) := by decide +kernel
theorem dX0_findOrbits_14 : decode mi_X0_findOrbits.2.1 14 = .ok (.iload_n 1, 1) := by decide +kernel
theorem dX0_findOrbits_15 : decode mi_X0_findOrbits.2.1 15 = .ok (.aload_n 0, 1) := by decide +kernel
theorem dX0_findOrbits_16 : decode mi_X0_findOrbits.2.1 16 = .ok (.getfield 28, 3) := by decide +kernel
theorem dX0_findOrbits_19 : decode mi_X0_findOrbits.2.1 19 = .ok (.invokevirtual 48, 3) := by decide +kernel
theorem dX0_findOrbits_22 : decode mi_X0_findOrbits.2.1 22 = .ok (.if_icmp .ge 39, 3) := by decide +kernel
theorem dX0_findOrbits_25 : decode mi_X0_findOrbits.2.1 25 = .ok (.iload_n 1, 1) := by decide +kernel
theorem dX0_findOrbits_26 : decode mi_X0_findOrbits.2.1 26 = .ok (.bipush 25, 2) := by decide +kernel
theorem dX0_findOrbits_28 : decode mi_X0_findOrbits.2.1 28 = .ok (.if_icmp .ge 33, 3) := by decide +kernel
theorem dX0_findOrbits_31 : decode mi_X0_findOrbits.2.1 31 = .ok (.aload_n 0, 1) := by decide +kernel
theorem dX0_findOrbits_32 : decode mi_X0_findOrbits.2.1 32 = .ok (.getfield 18, 3) := by decide +kernel
theorem dX0_findOrbits_35 : decode mi_X0_findOrbits.2.1 35 = .ok (.iload_n 1, 1) := by decide +kernel
theorem dX0_findOrbits_36 : decode mi_X0_findOrbits.2.1 36 = .ok (.baload, 1) := by decide +kernel
theorem dX0_findOrbits_37 : decode mi_X0_findOrbits.2.1 37 = .ok (.ifCond .ne 18, 3) := by decide +kernel
theorem dX0_findOrbits_40 : decode mi_X0_findOrbits.2.1 40 = .ok (.aload_n 0, 1) := by decide +kernel
theorem dX0_findOrbits_41 : decode mi_X0_findOrbits.2.1 41 = .ok (.dup, 1) := by decide +kernel
theorem dX0_findOrbits_42 : decode mi_X0_findOrbits.2.1 42 = .ok (.getfield 44, 3) := by decide +kernel
theorem dX0_findOrbits_45 : decode mi_X0_findOrbits.2.1 45 = .ok (.iconst 1, 1) := by decide +kernel
theorem dX0_findOrbits_46 : decode mi_X0_findOrbits.2.1 46 = .ok (.iadd, 1) := by decide +kernel
theorem dX0_findOrbits_47 : decode mi_X0_findOrbits.2.1 47 = .ok (.putfield 44, 3) := by decide +kernel
theorem dX0_findOrbits_50 : decode mi_X0_findOrbits.2.1 50 = .ok (.aload_n 0, 1) := by decide +kernel
theorem dX0_findOrbits_51 : decode mi_X0_findOrbits.2.1 51 = .ok (.iload_n 1, 1) := by decide +kernel
theorem dX0_findOrbits_52 : decode mi_X0_findOrbits.2.1 52 = .ok (.invokevirtual 54, 3) := by decide +kernel
theorem dX0_findOrbits_55 : decode mi_X0_findOrbits.2.1 55 = .ok (.iinc 1 1, 3) := by decide +kernel
theorem dX0_findOrbits_58 : decode mi_X0_findOrbits.2.1 58 = .ok (.goto (-44), 3) := by decide +kernel
theorem dX0_findOrbits_61 : decode mi_X0_findOrbits.2.1 61 = .ok (.return_, 1) := by decide +kernel
theorem dX0_findOrbit_0 : decode mi_X0_findOrbit.2.1 0 = .ok (.aload_n 0, 1) := by decide +kernel
theorem dX0_findOrbit_1 : decode mi_X0_findOrbit.2.1 1 = .ok (.iconst 0, 1) := by decide +kernel
theorem dX0_findOrbit_2 : decode mi_X0_findOrbit.2.1 2 = .ok (.putfield 58, 3) := by decide +kernel
theorem dX0_findOrbit_5 : decode mi_X0_findOrbit.2.1 5 = .ok (.aload_n 0, 1) := by decide +kernel
theorem dX0_findOrbit_6 : decode mi_X0_findOrbit.2.1 6 = .ok (.iload_n 1, 1) := by decide +kernel
theorem dX0_findOrbit_7 : decode mi_X0_findOrbit.2.1 7 = .ok (.invokevirtual 61, 3) := by decide +kernel
theorem dX0_findOrbit_10 : decode mi_X0_findOrbit.2.1 10 = .ok (.iconst 0, 1) := by decide +kernel
theorem dX0_findOrbit_11 : decode mi_X0_findOrbit.2.1 11 = .ok (.istore_n 2, 1) := by decide +kernel
theorem dX0_findOrbit_12 : decode mi_X0_findOrbit.2.1 12 = .ok (.iload_n 2, 1) := by decide +kernel
theorem dX0_findOrbit_13 : decode mi_X0_findOrbit.2.1 13 = .ok (.aload_n 0, 1) := by decide +kernel
theorem dX0_findOrbit_14 : decode mi_X0_findOrbit.2.1 14 = .ok (.getfield 58, 3) := by decide +kernel
theorem dX0_findOrbit_17 : decode mi_X0_findOrbit.2.1 17 = .ok (.if_icmp .ge 59, 3) := by decide +kernel
theorem dX0_findOrbit_20 : decode mi_X0_findOrbit.2.1 20 = .ok (.iload_n 2, 1) := by decide +kernel
theorem dX0_findOrbit_21 : decode mi_X0_findOrbit.2.1 21 = .ok (.bipush 25, 2) := by decide +kernel
theorem dX0_findOrbit_23 : decode mi_X0_findOrbit.2.1 23 = .ok (.if_icmp .ge 53, 3) := by decide +kernel
theorem dX0_findOrbit_26 : decode mi_X0_findOrbit.2.1 26 = .ok (.iconst 0, 1) := by decide +kernel
theorem dX0_findOrbit_27 : decode mi_X0_findOrbit.2.1 27 = .ok (.istore_n 3, 1) := by decide +kernel
theorem dX0_findOrbit_28 : decode mi_X0_findOrbit.2.1 28 = .ok (.iload_n 3, 1) := by decide +kernel
theorem dX0_findOrbit_29 : decode mi_X0_findOrbit.2.1 29 = .ok (.aload_n 0, 1) := by decide +kernel
theorem dX0_findOrbit_30 : decode mi_X0_findOrbit.2.1 30 = .ok (.getfield 32, 3) := by decide +kernel
theorem dX0_findOrbit_33 : decode mi_X0_findOrbit.2.1 33 = .ok (.getfield 64, 3) := by decide +kernel
theorem dX0_findOrbit_36 : decode mi_X0_findOrbit.2.1 36 = .ok (.if_icmp .ge 34, 3) := by decide +kernel
theorem dX0_findOrbit_39 : decode mi_X0_findOrbit.2.1 39 = .ok (.aload_n 0, 1) := by decide +kernel
theorem dX0_findOrbit_40 : decode mi_X0_findOrbit.2.1 40 = .ok (.aload_n 0, 1) := by decide +kernel
theorem dX0_findOrbit_41 : decode mi_X0_findOrbit.2.1 41 = .ok (.getfield 28, 3) := by decide +kernel
theorem dX0_findOrbit_44 : decode mi_X0_findOrbit.2.1 44 = .ok (.aload_n 0, 1) := by decide +kernel
theorem dX0_findOrbit_45 : decode mi_X0_findOrbit.2.1 45 = .ok (.getfield 32, 3) := by decide +kernel
theorem dX0_findOrbit_48 : decode mi_X0_findOrbit.2.1 48 = .ok (.iload_n 3, 1) := by decide +kernel
theorem dX0_findOrbit_49 : decode mi_X0_findOrbit.2.1 49 = .ok (.invokevirtual 69, 3) := by decide +kernel
theorem dX0_findOrbit_52 : decode mi_X0_findOrbit.2.1 52 = .ok (.aload_n 0, 1) := by decide +kernel
theorem dX0_findOrbit_53 : decode mi_X0_findOrbit.2.1 53 = .ok (.getfield 22, 3) := by decide +kernel
theorem dX0_findOrbit_56 : decode mi_X0_findOrbit.2.1 56 = .ok (.iload_n 2, 1) := by decide +kernel
theorem dX0_findOrbit_57 : decode mi_X0_findOrbit.2.1 57 = .ok (.iaload, 1) := by decide +kernel
theorem dX0_findOrbit_58 : decode mi_X0_findOrbit.2.1 58 = .ok (.invokevirtual 73, 3) := by decide +kernel
theorem dX0_findOrbit_61 : decode mi_X0_findOrbit.2.1 61 = .ok (.invokevirtual 61, 3) := by decide +kernel
theorem dX0_findOrbit_64 : decode mi_X0_findOrbit.2.1 64 = .ok (.iinc 3 1, 3) := by decide +kernel
theorem dX0_findOrbit_67 : decode mi_X0_findOrbit.2.1 67 = .ok (.goto (-39), 3) := by decide +kernel
theorem dX0_findOrbit_70 : decode mi_X0_findOrbit.2.1 70 = .ok (.iinc 2 1, 3) := by decide +kernel
theorem dX0_findOrbit_73 : decode mi_X0_findOrbit.2.1 73 = .ok (.goto (-61), 3) := by decide +kernel
theorem dX0_findOrbit_76 : decode mi_X0_findOrbit.2.1 76 = .ok (.iconst 0, 1) := by decide +kernel
theorem dX0_findOrbit_77 : decode mi_X0_findOrbit.2.1 77 = .ok (.istore_n 2, 1) := by decide +kernel
theorem dX0_findOrbit_78 : decode mi_X0_findOrbit.2.1 78 = .ok (.iload_n 2, 1) := by decide +kernel
theorem dX0_findOrbit_79 : decode mi_X0_findOrbit.2.1 79 = .ok (.aload_n 0, 1) := by decide +kernel
theorem dX0_findOrbit_80 : decode mi_X0_findOrbit.2.1 80 = .ok (.getfield 58, 3) := by decide +kernel
theorem dX0_findOrbit_83 : decode mi_X0_findOrbit.2.1 83 = .ok (.if_icmp .ge 48, 3) := by decide +kernel
theorem dX0_findOrbit_86 : decode mi_X0_findOrbit.2.1 86 = .ok (.iload_n 2, 1) := by decide +kernel
theorem dX0_findOrbit_87 : decode mi_X0_findOrbit.2.1 87 = .ok (.bipush 25, 2) := by decide +kernel
theorem dX0_findOrbit_89 : decode mi_X0_findOrbit.2.1 89 = .ok (.if_icmp .ge 42, 3) := by decide +kernel
theorem dX0_findOrbit_92 : decode mi_X0_findOrbit.2.1 92 = .ok (.aload_n 0, 1) := by decide +kernel
theorem dX0_findOrbit_93 : decode mi_X0_findOrbit.2.1 93 = .ok (.getfield 22, 3) := by decide +kernel
theorem dX0_findOrbit_96 : decode mi_X0_findOrbit.2.1 96 = .ok (.iload_n 2, 1) := by decide +kernel
theorem dX0_findOrbit_97 : decode mi_X0_findOrbit.2.1 97 = .ok (.iaload, 1) := by decide +kernel
theorem dX0_findOrbit_98 : decode mi_X0_findOrbit.2.1 98 = .ok (.istore_n 3, 1) := by decide +kernel
theorem dX0_findOrbit_99 : decode mi_X0_findOrbit.2.1 99 = .ok (.iload_n 3, 1) := by decide +kernel
theorem dX0_findOrbit_100 : decode mi_X0_findOrbit.2.1 100 = .ok (.bipush 25, 2) := by decide +kernel
theorem dX0_findOrbit_102 : decode mi_X0_findOrbit.2.1 102 = .ok (.invokestatic 77, 3) := by decide +kernel
theorem dX0_findOrbit_105 : decode mi_X0_findOrbit.2.1 105 = .ok (.ifCond .eq 20, 3) := by decide +kernel
theorem dX0_findOrbit_108 : decode mi_X0_findOrbit.2.1 108 = .ok (.aload_n 0, 1) := by decide +kernel
theorem dX0_findOrbit_109 : decode mi_X0_findOrbit.2.1 109 = .ok (.getfield 9, 3) := by decide +kernel
theorem dX0_findOrbit_112 : decode mi_X0_findOrbit.2.1 112 = .ok (.iload_n 3, 1) := by decide +kernel
theorem dX0_findOrbit_113 : decode mi_X0_findOrbit.2.1 113 = .ok (.iload_n 1, 1) := by decide +kernel
theorem dX0_findOrbit_114 : decode mi_X0_findOrbit.2.1 114 = .ok (.iastore, 1) := by decide +kernel
theorem dX0_findOrbit_115 : decode mi_X0_findOrbit.2.1 115 = .ok (.aload_n 0, 1) := by decide +kernel
theorem dX0_findOrbit_116 : decode mi_X0_findOrbit.2.1 116 = .ok (.getfield 15, 3) := by decide +kernel
theorem dX0_findOrbit_119 : decode mi_X0_findOrbit.2.1 119 = .ok (.iload_n 3, 1) := by decide +kernel
theorem dX0_findOrbit_120 : decode mi_X0_findOrbit.2.1 120 = .ok (.aload_n 0, 1) := by decide +kernel
theorem dX0_findOrbit_121 : decode mi_X0_findOrbit.2.1 121 = .ok (.getfield 58, 3) := by decide +kernel
theorem dX0_findOrbit_124 : decode mi_X0_findOrbit.2.1 124 = .ok (.iastore, 1) := by decide +kernel
theorem dX0_findOrbit_125 : decode mi_X0_findOrbit.2.1 125 = .ok (.iinc 2 1, 3) := by decide +kernel
theorem dX0_findOrbit_128 : decode mi_X0_findOrbit.2.1 128 = .ok (.goto (-50), 3) := by decide +kernel
theorem dX0_findOrbit_131 : decode mi_X0_findOrbit.2.1 131 = .ok (.return_, 1) := by decide +kernel
theorem dX0_reach_0 : decode mi_X0_reach.2.1 0 = .ok (.iload_n 1, 1) := by decide +kernel
theorem dX0_reach_1 : decode mi_X0_reach.2.1 1 = .ok (.bipush 25, 2) := by decide +kernel
theorem dX0_reach_3 : decode mi_X0_reach.2.1 3 = .ok (.invokestatic 77, 3) := by decide +kernel
theorem dX0_reach_6 : decode mi_X0_reach.2.1 6 = .ok (.ifCond .eq 51, 3) := by decide +kernel
theorem dX0_reach_9 : decode mi_X0_reach.2.1 9 = .ok (.aload_n 0, 1) := by decide +kernel
theorem dX0_reach_10 : decode mi_X0_reach.2.1 10 = .ok (.getfield 18, 3) := by decide +kernel
theorem dX0_reach_13 : decode mi_X0_reach.2.1 13 = .ok (.iload_n 1, 1) := by decide +kernel
theorem dX0_reach_14 : decode mi_X0_reach.2.1 14 = .ok (.baload, 1) := by decide +kernel
theorem dX0_reach_15 : decode mi_X0_reach.2.1 15 = .ok (.ifCond .ne 42, 3) := by decide +kernel
theorem dX0_reach_18 : decode mi_X0_reach.2.1 18 = .ok (.aload_n 0, 1) := by decide +kernel
theorem dX0_reach_19 : decode mi_X0_reach.2.1 19 = .ok (.getfield 58, 3) := by decide +kernel
theorem dX0_reach_22 : decode mi_X0_reach.2.1 22 = .ok (.bipush 25, 2) := by decide +kernel
theorem dX0_reach_24 : decode mi_X0_reach.2.1 24 = .ok (.invokestatic 77, 3) := by decide +kernel
theorem dX0_reach_27 : decode mi_X0_reach.2.1 27 = .ok (.ifCond .eq 30, 3) := by decide +kernel
theorem dX0_reach_30 : decode mi_X0_reach.2.1 30 = .ok (.aload_n 0, 1) := by decide +kernel
theorem dX0_reach_31 : decode mi_X0_reach.2.1 31 = .ok (.getfield 18, 3) := by decide +kernel
theorem dX0_reach_34 : decode mi_X0_reach.2.1 34 = .ok (.iload_n 1, 1) := by decide +kernel
theorem dX0_reach_35 : decode mi_X0_reach.2.1 35 = .ok (.iconst 1, 1) := by decide +kernel
theorem dX0_reach_36 : decode mi_X0_reach.2.1 36 = .ok (.bastore, 1) := by decide +kernel
theorem dX0_reach_37 : decode mi_X0_reach.2.1 37 = .ok (.aload_n 0, 1) := by decide +kernel
theorem dX0_reach_38 : decode mi_X0_reach.2.1 38 = .ok (.getfield 22, 3) := by decide +kernel
theorem dX0_reach_41 : decode mi_X0_reach.2.1 41 = .ok (.aload_n 0, 1) := by decide +kernel
theorem dX0_reach_42 : decode mi_X0_reach.2.1 42 = .ok (.getfield 58, 3) := by decide +kernel
theorem dX0_reach_45 : decode mi_X0_reach.2.1 45 = .ok (.iload_n 1, 1) := by decide +kernel
theorem dX0_reach_46 : decode mi_X0_reach.2.1 46 = .ok (.iastore, 1) := by decide +kernel
theorem dX0_reach_47 : decode mi_X0_reach.2.1 47 = .ok (.aload_n 0, 1) := by decide +kernel
theorem dX0_reach_48 : decode mi_X0_reach.2.1 48 = .ok (.dup, 1) := by decide +kernel
theorem dX0_reach_49 : decode mi_X0_reach.2.1 49 = .ok (.getfield 58, 3) := by decide +kernel
theorem dX0_reach_52 : decode mi_X0_reach.2.1 52 = .ok (.iconst 1, 1) := by decide +kernel
theorem dX0_reach_53 : decode mi_X0_reach.2.1 53 = .ok (.iadd, 1) := by decide +kernel
theorem dX0_reach_54 : decode mi_X0_reach.2.1 54 = .ok (.putfield 58, 3) := by decide +kernel
theorem dX0_reach_57 : decode mi_X0_reach.2.1 57 = .ok (.return_, 1) := by decide +kernel
theorem dX0_orbits_0 : decode mi_X0_orbits.2.1 0 = .ok (.aload_n 0, 1) := by decide +kernel
theorem dX0_orbits_1 : decode mi_X0_orbits.2.1 1 = .ok (.getfield 44, 3) := by decide +kernel
theorem dX0_orbits_4 : decode mi_X0_orbits.2.1 4 = .ok (.ireturn, 1) := by decide +kernel
theorem dX0_leastOfOrbit_0 : decode mi_X0_leastOfOrbit.2.1 0 = .ok (.iload_n 1, 1) := by decide +kernel
theorem dX0_leastOfOrbit_1 : decode mi_X0_leastOfOrbit.2.1 1 = .ok (.bipush 25, 2) := by decide +kernel
theorem dX0_leastOfOrbit_3 : decode mi_X0_leastOfOrbit.2.1 3 = .ok (.invokestatic 77, 3) := by decide +kernel
theorem dX0_leastOfOrbit_6 : decode mi_X0_leastOfOrbit.2.1 6 = .ok (.ifCond .eq 12, 3) := by decide +kernel
theorem dX0_leastOfOrbit_9 : decode mi_X0_leastOfOrbit.2.1 9 = .ok (.aload_n 0, 1) := by decide +kernel
theorem dX0_leastOfOrbit_10 : decode mi_X0_leastOfOrbit.2.1 10 = .ok (.getfield 9, 3) := by decide +kernel
theorem dX0_leastOfOrbit_13 : decode mi_X0_leastOfOrbit.2.1 13 = .ok (.iload_n 1, 1) := by decide +kernel
theorem dX0_leastOfOrbit_14 : decode mi_X0_leastOfOrbit.2.1 14 = .ok (.iaload, 1) := by decide +kernel
theorem dX0_leastOfOrbit_15 : decode mi_X0_leastOfOrbit.2.1 15 = .ok (.goto 4, 3) := by decide +kernel
theorem dX0_leastOfOrbit_18 : decode mi_X0_leastOfOrbit.2.1 18 = .ok (.iconst 0, 1) := by decide +kernel
theorem dX0_leastOfOrbit_19 : decode mi_X0_leastOfOrbit.2.1 19 = .ok (.ireturn, 1) := by decide +kernel
theorem dX0_sizeOfOrbit_0 : decode mi_X0_sizeOfOrbit.2.1 0 = .ok (.iload_n 1, 1) := by decide +kernel
theorem dX0_sizeOfOrbit_1 : decode mi_X0_sizeOfOrbit.2.1 1 = .ok (.bipush 25, 2) := by decide +kernel
theorem dX0_sizeOfOrbit_3 : decode mi_X0_sizeOfOrbit.2.1 3 = .ok (.invokestatic 77, 3) := by decide +kernel
theorem dX0_sizeOfOrbit_6 : decode mi_X0_sizeOfOrbit.2.1 6 = .ok (.ifCond .eq 12, 3) := by decide +kernel
theorem dX0_sizeOfOrbit_9 : decode mi_X0_sizeOfOrbit.2.1 9 = .ok (.aload_n 0, 1) := by decide +kernel
theorem dX0_sizeOfOrbit_10 : decode mi_X0_sizeOfOrbit.2.1 10 = .ok (.getfield 15, 3) := by decide +kernel
theorem dX0_sizeOfOrbit_13 : decode mi_X0_sizeOfOrbit.2.1 13 = .ok (.iload_n 1, 1) := by decide +kernel
theorem dX0_sizeOfOrbit_14 : decode mi_X0_sizeOfOrbit.2.1 14 = .ok (.iaload, 1) := by decide +kernel
theorem dX0_sizeOfOrbit_15 : decode mi_X0_sizeOfOrbit.2.1 15 = .ok (.goto 4, 3) := by decide +kernel
theorem dX0_sizeOfOrbit_18 : decode mi_X0_sizeOfOrbit.2.1 18 = .ok (.iconst 0, 1) := by decide +kernel
theorem dX0_sizeOfOrbit_19 : decode mi_X0_sizeOfOrbit.2.1 19 = .ok (.ireturn, 1) := by decide +kernel
theorem dX0_sizeOfStabilizer_0 : decode mi_X0_sizeOfStabilizer.2.1 0 = .ok (.aload_n 0, 1) := by decide +kernel
theorem dX0_sizeOfStabilizer_1 : decode mi_X0_sizeOfStabilizer.2.1 1 = .ok (.getfield 36, 3) := by decide +kernel
theorem dX0_sizeOfStabilizer_4 : decode mi_X0_sizeOfStabilizer.2.1 4 = .ok (.invokevirtual 81, 3) := by decide +kernel
theorem dX0_sizeOfStabilizer_7 : decode mi_X0_sizeOfStabilizer.2.1 7 = .ok (.aload_n 0, 1) := by decide +kernel
theorem dX0_sizeOfStabilizer_8 : decode mi_X0_sizeOfStabilizer.2.1 8 = .ok (.iload_n 1, 1) := by decide +kernel
theorem dX0_sizeOfStabilizer_9 : decode mi_X0_sizeOfStabilizer.2.1 9 = .ok (.invokevirtual 85, 3) := by decide +kernel
theorem dX0_sizeOfStabilizer_12 : decode mi_X0_sizeOfStabilizer.2.1 12 = .ok (.invokestatic 88, 3) := by decide +kernel
theorem dX0_sizeOfStabilizer_15 : decode mi_X0_sizeOfStabilizer.2.1 15 = .ok (.ireturn, 1) := by decide +kernel
theorem dX0_hasStabilizerOf_0 : decode mi_X0_hasStabilizerOf.2.1 0 = .ok (.iconst 0, 1) := by decide +kernel
theorem dX0_hasStabilizerOf_1 : decode mi_X0_hasStabilizerOf.2.1 1 = .ok (.istore_n 2, 1) := by decide +kernel
theorem dX0_hasStabilizerOf_2 : decode mi_X0_hasStabilizerOf.2.1 2 = .ok (.iload_n 2, 1) := by decide +kernel
theorem dX0_hasStabilizerOf_3 : decode mi_X0_hasStabilizerOf.2.1 3 = .ok (.aload_n 0, 1) := by decide +kernel
theorem dX0_hasStabilizerOf_4 : decode mi_X0_hasStabilizerOf.2.1 4 = .ok (.getfield 28, 3) := by decide +kernel
theorem dX0_hasStabilizerOf_7 : decode mi_X0_hasStabilizerOf.2.1 7 = .ok (.invokevirtual 48, 3) := by decide +kernel
theorem dX0_hasStabilizerOf_10 : decode mi_X0_hasStabilizerOf.2.1 10 = .ok (.if_icmp .ge 20, 3) := by decide +kernel
theorem dX0_hasStabilizerOf_13 : decode mi_X0_hasStabilizerOf.2.1 13 = .ok (.aload_n 0, 1) := by decide +kernel
theorem dX0_hasStabilizerOf_14 : decode mi_X0_hasStabilizerOf.2.1 14 = .ok (.iload_n 2, 1) := by decide +kernel
theorem dX0_hasStabilizerOf_15 : decode mi_X0_hasStabilizerOf.2.1 15 = .ok (.invokevirtual 91, 3) := by decide +kernel
theorem dX0_hasStabilizerOf_18 : decode mi_X0_hasStabilizerOf.2.1 18 = .ok (.iload_n 1, 1) := by decide +kernel
theorem dX0_hasStabilizerOf_19 : decode mi_X0_hasStabilizerOf.2.1 19 = .ok (.if_icmp .ne 5, 3) := by decide +kernel
theorem dX0_hasStabilizerOf_22 : decode mi_X0_hasStabilizerOf.2.1 22 = .ok (.iconst 1, 1) := by decide +kernel
theorem dX0_hasStabilizerOf_23 : decode mi_X0_hasStabilizerOf.2.1 23 = .ok (.ireturn, 1) := by decide +kernel
theorem dX0_hasStabilizerOf_24 : decode mi_X0_hasStabilizerOf.2.1 24 = .ok (.iinc 2 1, 3) := by decide +kernel
theorem dX0_hasStabilizerOf_27 : decode mi_X0_hasStabilizerOf.2.1 27 = .ok (.goto (-25), 3) := by decide +kernel
theorem dX0_hasStabilizerOf_30 : decode mi_X0_hasStabilizerOf.2.1 30 = .ok (.iconst 0, 1) := by decide +kernel
theorem dX0_hasStabilizerOf_31 : decode mi_X0_hasStabilizerOf.2.1 31 = .ok (.ireturn, 1) := by decide +kernel
theorem dX0_countColoringClasses_0 : decode mi_X0_countColoringClasses.2.1 0 = .ok (.aload_n 0, 1) := by decide +kernel
theorem dX0_countColoringClasses_1 : decode mi_X0_countColoringClasses.2.1 1 = .ok (.getfield 36, 3) := by decide +kernel
theorem dX0_countColoringClasses_4 : decode mi_X0_countColoringClasses.2.1 4 = .ok (.invokevirtual 81, 3) := by decide +kernel
theorem dX0_countColoringClasses_7 : decode mi_X0_countColoringClasses.2.1 7 = .ok (.istore_n 2, 1) := by decide +kernel
theorem dX0_countColoringClasses_8 : decode mi_X0_countColoringClasses.2.1 8 = .ok (.lconst 0, 1) := by decide +kernel
theorem dX0_countColoringClasses_9 : decode mi_X0_countColoringClasses.2.1 9 = .ok (.lstore_n 3, 1) := by decide +kernel
theorem dX0_countColoringClasses_10 : decode mi_X0_countColoringClasses.2.1 10 = .ok (.iconst 0, 1) := by decide +kernel
theorem dX0_countColoringClasses_11 : decode mi_X0_countColoringClasses.2.1 11 = .ok (.istore 5, 2) := by decide +kernel
theorem dX0_countColoringClasses_13 : decode mi_X0_countColoringClasses.2.1 13 = .ok (.iload 5, 2) := by decide +kernel
theorem dX0_countColoringClasses_15 : decode mi_X0_countColoringClasses.2.1 15 = .ok (.iload_n 2, 1) := by decide +kernel
theorem dX0_countColoringClasses_16 : decode mi_X0_countColoringClasses.2.1 16 = .ok (.if_icmp .ge 29, 3) := by decide +kernel
theorem dX0_countColoringClasses_19 : decode mi_X0_countColoringClasses.2.1 19 = .ok (.lload_n 3, 1) := by decide +kernel
theorem dX0_countColoringClasses_20 : decode mi_X0_countColoringClasses.2.1 20 = .ok (.iload_n 1, 1) := by decide +kernel
theorem dX0_countColoringClasses_21 : decode mi_X0_countColoringClasses.2.1 21 = .ok (.aload_n 0, 1) := by decide +kernel
theorem dX0_countColoringClasses_22 : decode mi_X0_countColoringClasses.2.1 22 = .ok (.aload_n 0, 1) := by decide +kernel
theorem dX0_countColoringClasses_23 : decode mi_X0_countColoringClasses.2.1 23 = .ok (.getfield 36, 3) := by decide +kernel
theorem dX0_countColoringClasses_26 : decode mi_X0_countColoringClasses.2.1 26 = .ok (.iload 5, 2) := by decide +kernel
theorem dX0_countColoringClasses_28 : decode mi_X0_countColoringClasses.2.1 28 = .ok (.invokevirtual 94, 3) := by decide +kernel
theorem dX0_countColoringClasses_31 : decode mi_X0_countColoringClasses.2.1 31 = .ok (.invokevirtual 97, 3) := by decide +kernel
theorem dX0_countColoringClasses_34 : decode mi_X0_countColoringClasses.2.1 34 = .ok (.invokestatic 100, 3) := by decide +kernel
theorem dX0_countColoringClasses_37 : decode mi_X0_countColoringClasses.2.1 37 = .ok (.ladd, 1) := by decide +kernel
theorem dX0_countColoringClasses_38 : decode mi_X0_countColoringClasses.2.1 38 = .ok (.lstore_n 3, 1) := by decide +kernel
theorem dX0_countColoringClasses_39 : decode mi_X0_countColoringClasses.2.1 39 = .ok (.iinc 5 1, 3) := by decide +kernel
theorem dX0_countColoringClasses_42 : decode mi_X0_countColoringClasses.2.1 42 = .ok (.goto (-29), 3) := by decide +kernel
theorem dX0_countColoringClasses_45 : decode mi_X0_countColoringClasses.2.1 45 = .ok (.iload_n 2, 1) := by decide +kernel
theorem dX0_countColoringClasses_46 : decode mi_X0_countColoringClasses.2.1 46 = .ok (.ifCond .le 10, 3) := by decide +kernel
theorem dX0_countColoringClasses_49 : decode mi_X0_countColoringClasses.2.1 49 = .ok (.lload_n 3, 1) := by decide +kernel
theorem dX0_countColoringClasses_50 : decode mi_X0_countColoringClasses.2.1 50 = .ok (.iload_n 2, 1) := by decide +kernel
theorem dX0_countColoringClasses_51 : decode mi_X0_countColoringClasses.2.1 51 = .ok (.i2l, 1) := by decide +kernel
theorem dX0_countColoringClasses_52 : decode mi_X0_countColoringClasses.2.1 52 = .ok (.ldiv, 1) := by decide +kernel
theorem dX0_countColoringClasses_53 : decode mi_X0_countColoringClasses.2.1 53 = .ok (.goto 4, 3) := by decide +kernel
theorem dX0_countColoringClasses_56 : decode mi_X0_countColoringClasses.2.1 56 = .ok (.lconst 0, 1) := by decide +kernel
theorem dX0_countColoringClasses_57 : decode mi_X0_countColoringClasses.2.1 57 = .ok (.lreturn, 1) := by decide +kernel
theorem dX0_countCycles_0 : decode mi_X0_countCycles.2.1 0 = .ok (.aload_n 0, 1) := by decide +kernel
theorem dX0_countCycles_1 : decode mi_X0_countCycles.2.1 1 = .ok (.iload_n 1, 1) := by decide +kernel
theorem dX0_countCycles_2 : decode mi_X0_countCycles.2.1 2 = .ok (.invokevirtual 104, 3) := by decide +kernel
theorem dX0_countCycles_5 : decode mi_X0_countCycles.2.1 5 = .ok (.aload_n 0, 1) := by decide +kernel
theorem dX0_countCycles_6 : decode mi_X0_countCycles.2.1 6 = .ok (.getfield 18, 3) := by decide +kernel
theorem dX0_countCycles_9 : decode mi_X0_countCycles.2.1 9 = .ok (.invokestatic 40, 3) := by decide +kernel
theorem dX0_countCycles_12 : decode mi_X0_countCycles.2.1 12 = .ok (.iconst 0, 1) := by decide +kernel
theorem dX0_countCycles_13 : decode mi_X0_countCycles.2.1 13 = .ok (.istore_n 2, 1) := by decide +kernel
theorem dX0_countCycles_14 : decode mi_X0_countCycles.2.1 14 = .ok (.iconst 0, 1) := by decide +kernel
theorem dX0_countCycles_15 : decode mi_X0_countCycles.2.1 15 = .ok (.istore_n 3, 1) := by decide +kernel
theorem dX0_countCycles_16 : decode mi_X0_countCycles.2.1 16 = .ok (.iload_n 3, 1) := by decide +kernel
theorem dX0_countCycles_17 : decode mi_X0_countCycles.2.1 17 = .ok (.aload_n 0, 1) := by decide +kernel
theorem dX0_countCycles_18 : decode mi_X0_countCycles.2.1 18 = .ok (.getfield 28, 3) := by decide +kernel
theorem dX0_countCycles_21 : decode mi_X0_countCycles.2.1 21 = .ok (.invokevirtual 48, 3) := by decide +kernel
theorem dX0_countCycles_24 : decode mi_X0_countCycles.2.1 24 = .ok (.if_icmp .ge 32, 3) := by decide +kernel
theorem dX0_countCycles_27 : decode mi_X0_countCycles.2.1 27 = .ok (.iload_n 3, 1) := by decide +kernel
theorem dX0_countCycles_28 : decode mi_X0_countCycles.2.1 28 = .ok (.bipush 25, 2) := by decide +kernel
theorem dX0_countCycles_30 : decode mi_X0_countCycles.2.1 30 = .ok (.if_icmp .ge 26, 3) := by decide +kernel
theorem dX0_countCycles_33 : decode mi_X0_countCycles.2.1 33 = .ok (.aload_n 0, 1) := by decide +kernel
theorem dX0_countCycles_34 : decode mi_X0_countCycles.2.1 34 = .ok (.getfield 18, 3) := by decide +kernel
theorem dX0_countCycles_37 : decode mi_X0_countCycles.2.1 37 = .ok (.iload_n 3, 1) := by decide +kernel
theorem dX0_countCycles_38 : decode mi_X0_countCycles.2.1 38 = .ok (.baload, 1) := by decide +kernel
theorem dX0_countCycles_39 : decode mi_X0_countCycles.2.1 39 = .ok (.ifCond .ne 11, 3) := by decide +kernel
theorem dX0_countCycles_42 : decode mi_X0_countCycles.2.1 42 = .ok (.iinc 2 1, 3) := by decide +kernel
theorem dX0_countCycles_45 : decode mi_X0_countCycles.2.1 45 = .ok (.aload_n 0, 1) := by decide +kernel
theorem dX0_countCycles_46 : decode mi_X0_countCycles.2.1 46 = .ok (.iload_n 3, 1) := by decide +kernel
theorem dX0_countCycles_47 : decode mi_X0_countCycles.2.1 47 = .ok (.invokevirtual 107, 3) := by decide +kernel
theorem dX0_countCycles_50 : decode mi_X0_countCycles.2.1 50 = .ok (.iinc 3 1, 3) := by decide +kernel
theorem dX0_countCycles_53 : decode mi_X0_countCycles.2.1 53 = .ok (.goto (-37), 3) := by decide +kernel
theorem dX0_countCycles_56 : decode mi_X0_countCycles.2.1 56 = .ok (.iload_n 2, 1) := by decide +kernel
theorem dX0_countCycles_57 : decode mi_X0_countCycles.2.1 57 = .ok (.ireturn, 1) := by decide +kernel
theorem dX0_walkCycle_0 : decode mi_X0_walkCycle.2.1 0 = .ok (.iload_n 1, 1) := by decide +kernel
theorem dX0_walkCycle_1 : decode mi_X0_walkCycle.2.1 1 = .ok (.istore_n 2, 1) := by decide +kernel
theorem dX0_walkCycle_2 : decode mi_X0_walkCycle.2.1 2 = .ok (.iconst 0, 1) := by decide +kernel
theorem dX0_walkCycle_3 : decode mi_X0_walkCycle.2.1 3 = .ok (.istore_n 3, 1) := by decide +kernel
theorem dX0_walkCycle_4 : decode mi_X0_walkCycle.2.1 4 = .ok (.iload_n 3, 1) := by decide +kernel
theorem dX0_walkCycle_5 : decode mi_X0_walkCycle.2.1 5 = .ok (.bipush 25, 2) := by decide +kernel
theorem dX0_walkCycle_7 : decode mi_X0_walkCycle.2.1 7 = .ok (.if_icmp .ge 42, 3) := by decide +kernel
theorem dX0_walkCycle_10 : decode mi_X0_walkCycle.2.1 10 = .ok (.iload_n 2, 1) := by decide +kernel
theorem dX0_walkCycle_11 : decode mi_X0_walkCycle.2.1 11 = .ok (.bipush 25, 2) := by decide +kernel
theorem dX0_walkCycle_13 : decode mi_X0_walkCycle.2.1 13 = .ok (.invokestatic 77, 3) := by decide +kernel
theorem dX0_walkCycle_16 : decode mi_X0_walkCycle.2.1 16 = .ok (.ifCond .eq 12, 3) := by decide +kernel
theorem dX0_walkCycle_19 : decode mi_X0_walkCycle.2.1 19 = .ok (.aload_n 0, 1) := by decide +kernel
theorem dX0_walkCycle_20 : decode mi_X0_walkCycle.2.1 20 = .ok (.getfield 18, 3) := by decide +kernel
theorem dX0_walkCycle_23 : decode mi_X0_walkCycle.2.1 23 = .ok (.iload_n 2, 1) := by decide +kernel
theorem dX0_walkCycle_24 : decode mi_X0_walkCycle.2.1 24 = .ok (.baload, 1) := by decide +kernel
theorem dX0_walkCycle_25 : decode mi_X0_walkCycle.2.1 25 = .ok (.ifCond .eq 4, 3) := by decide +kernel
theorem dX0_walkCycle_28 : decode mi_X0_walkCycle.2.1 28 = .ok (.return_, 1) := by decide +kernel
theorem dX0_walkCycle_29 : decode mi_X0_walkCycle.2.1 29 = .ok (.aload_n 0, 1) := by decide +kernel
theorem dX0_walkCycle_30 : decode mi_X0_walkCycle.2.1 30 = .ok (.getfield 18, 3) := by decide +kernel
theorem dX0_walkCycle_33 : decode mi_X0_walkCycle.2.1 33 = .ok (.iload_n 2, 1) := by decide +kernel
theorem dX0_walkCycle_34 : decode mi_X0_walkCycle.2.1 34 = .ok (.iconst 1, 1) := by decide +kernel
theorem dX0_walkCycle_35 : decode mi_X0_walkCycle.2.1 35 = .ok (.bastore, 1) := by decide +kernel
theorem dX0_walkCycle_36 : decode mi_X0_walkCycle.2.1 36 = .ok (.aload_n 0, 1) := by decide +kernel
theorem dX0_walkCycle_37 : decode mi_X0_walkCycle.2.1 37 = .ok (.getfield 25, 3) := by decide +kernel
theorem dX0_walkCycle_40 : decode mi_X0_walkCycle.2.1 40 = .ok (.iload_n 2, 1) := by decide +kernel
theorem dX0_walkCycle_41 : decode mi_X0_walkCycle.2.1 41 = .ok (.iaload, 1) := by decide +kernel
theorem dX0_walkCycle_42 : decode mi_X0_walkCycle.2.1 42 = .ok (.istore_n 2, 1) := by decide +kernel
theorem dX0_walkCycle_43 : decode mi_X0_walkCycle.2.1 43 = .ok (.iinc 3 1, 3) := by decide +kernel
theorem dX0_walkCycle_46 : decode mi_X0_walkCycle.2.1 46 = .ok (.goto (-42), 3) := by decide +kernel
theorem dX0_walkCycle_49 : decode mi_X0_walkCycle.2.1 49 = .ok (.return_, 1) := by decide +kernel
theorem dX0_fillImages_0 : decode mi_X0_fillImages.2.1 0 = .ok (.aload_n 0, 1) := by decide +kernel
theorem dX0_fillImages_1 : decode mi_X0_fillImages.2.1 1 = .ok (.getfield 28, 3) := by decide +kernel
theorem dX0_fillImages_4 : decode mi_X0_fillImages.2.1 4 = .ok (.iload_n 1, 1) := by decide +kernel
theorem dX0_fillImages_5 : decode mi_X0_fillImages.2.1 5 = .ok (.invokevirtual 110, 3) := by decide +kernel
theorem dX0_fillImages_8 : decode mi_X0_fillImages.2.1 8 = .ok (.istore_n 2, 1) := by decide +kernel
theorem dX0_fillImages_9 : decode mi_X0_fillImages.2.1 9 = .ok (.aload_n 0, 1) := by decide +kernel
theorem dX0_fillImages_10 : decode mi_X0_fillImages.2.1 10 = .ok (.getfield 28, 3) := by decide +kernel
theorem dX0_fillImages_13 : decode mi_X0_fillImages.2.1 13 = .ok (.iload_n 2, 1) := by decide +kernel
theorem dX0_fillImages_14 : decode mi_X0_fillImages.2.1 14 = .ok (.iconst 0, 1) := by decide +kernel
theorem dX0_fillImages_15 : decode mi_X0_fillImages.2.1 15 = .ok (.invokevirtual 113, 3) := by decide +kernel
theorem dX0_fillImages_18 : decode mi_X0_fillImages.2.1 18 = .ok (.istore_n 3, 1) := by decide +kernel
theorem dX0_fillImages_19 : decode mi_X0_fillImages.2.1 19 = .ok (.aload_n 0, 1) := by decide +kernel
theorem dX0_fillImages_20 : decode mi_X0_fillImages.2.1 20 = .ok (.getfield 28, 3) := by decide +kernel
theorem dX0_fillImages_23 : decode mi_X0_fillImages.2.1 23 = .ok (.iload_n 2, 1) := by decide +kernel
theorem dX0_fillImages_24 : decode mi_X0_fillImages.2.1 24 = .ok (.iconst 1, 1) := by decide +kernel
theorem dX0_fillImages_25 : decode mi_X0_fillImages.2.1 25 = .ok (.invokevirtual 113, 3) := by decide +kernel
theorem dX0_fillImages_28 : decode mi_X0_fillImages.2.1 28 = .ok (.istore 4, 2) := by decide +kernel
theorem dX0_fillImages_30 : decode mi_X0_fillImages.2.1 30 = .ok (.aload_n 0, 1) := by decide +kernel
theorem dX0_fillImages_31 : decode mi_X0_fillImages.2.1 31 = .ok (.getfield 28, 3) := by decide +kernel
theorem dX0_fillImages_34 : decode mi_X0_fillImages.2.1 34 = .ok (.iload_n 2, 1) := by decide +kernel
theorem dX0_fillImages_35 : decode mi_X0_fillImages.2.1 35 = .ok (.iconst 2, 1) := by decide +kernel
theorem dX0_fillImages_36 : decode mi_X0_fillImages.2.1 36 = .ok (.invokevirtual 113, 3) := by decide +kernel
theorem dX0_fillImages_39 : decode mi_X0_fillImages.2.1 39 = .ok (.istore 5, 2) := by decide +kernel
theorem dX0_fillImages_41 : decode mi_X0_fillImages.2.1 41 = .ok (.aload_n 0, 1) := by decide +kernel
theorem dX0_fillImages_42 : decode mi_X0_fillImages.2.1 42 = .ok (.getfield 28, 3) := by decide +kernel
theorem dX0_fillImages_45 : decode mi_X0_fillImages.2.1 45 = .ok (.iload_n 2, 1) := by decide +kernel
theorem dX0_fillImages_46 : decode mi_X0_fillImages.2.1 46 = .ok (.iconst 3, 1) := by decide +kernel
theorem dX0_fillImages_47 : decode mi_X0_fillImages.2.1 47 = .ok (.invokevirtual 113, 3) := by decide +kernel
theorem dX0_fillImages_50 : decode mi_X0_fillImages.2.1 50 = .ok (.istore 6, 2) := by decide +kernel
theorem dX0_fillImages_52 : decode mi_X0_fillImages.2.1 52 = .ok (.aload_n 0, 1) := by decide +kernel
theorem dX0_fillImages_53 : decode mi_X0_fillImages.2.1 53 = .ok (.getfield 28, 3) := by decide +kernel
theorem dX0_fillImages_56 : decode mi_X0_fillImages.2.1 56 = .ok (.iload_n 1, 1) := by decide +kernel
theorem dX0_fillImages_57 : decode mi_X0_fillImages.2.1 57 = .ok (.invokevirtual 116, 3) := by decide +kernel
theorem dX0_fillImages_60 : decode mi_X0_fillImages.2.1 60 = .ok (.istore 7, 2) := by decide +kernel
theorem dX0_fillImages_62 : decode mi_X0_fillImages.2.1 62 = .ok (.aload_n 0, 1) := by decide +kernel
theorem dX0_fillImages_63 : decode mi_X0_fillImages.2.1 63 = .ok (.getfield 28, 3) := by decide +kernel
theorem dX0_fillImages_66 : decode mi_X0_fillImages.2.1 66 = .ok (.iload_n 1, 1) := by decide +kernel
theorem dX0_fillImages_67 : decode mi_X0_fillImages.2.1 67 = .ok (.invokevirtual 119, 3) := by decide +kernel
theorem dX0_fillImages_70 : decode mi_X0_fillImages.2.1 70 = .ok (.istore 8, 2) := by decide +kernel
theorem dX0_fillImages_72 : decode mi_X0_fillImages.2.1 72 = .ok (.iconst 0, 1) := by decide +kernel
theorem dX0_fillImages_73 : decode mi_X0_fillImages.2.1 73 = .ok (.istore 9, 2) := by decide +kernel
theorem dX0_fillImages_75 : decode mi_X0_fillImages.2.1 75 = .ok (.iconst 0, 1) := by decide +kernel
theorem dX0_fillImages_76 : decode mi_X0_fillImages.2.1 76 = .ok (.istore 10, 2) := by decide +kernel
theorem dX0_fillImages_78 : decode mi_X0_fillImages.2.1 78 = .ok (.iload 10, 2) := by decide +kernel
theorem dX0_fillImages_80 : decode mi_X0_fillImages.2.1 80 = .ok (.aload_n 0, 1) := by decide +kernel
theorem dX0_fillImages_81 : decode mi_X0_fillImages.2.1 81 = .ok (.getfield 28, 3) := by decide +kernel
theorem dX0_fillImages_84 : decode mi_X0_fillImages.2.1 84 = .ok (.getfield 122, 3) := by decide +kernel
theorem dX0_fillImages_87 : decode mi_X0_fillImages.2.1 87 = .ok (.if_icmp .ge 95, 3) := by decide +kernel
theorem dX0_fillImages_90 : decode mi_X0_fillImages.2.1 90 = .ok (.iconst 0, 1) := by decide +kernel
theorem dX0_fillImages_91 : decode mi_X0_fillImages.2.1 91 = .ok (.istore 11, 2) := by decide +kernel
theorem dX0_fillImages_93 : decode mi_X0_fillImages.2.1 93 = .ok (.iload 11, 2) := by decide +kernel
theorem dX0_fillImages_95 : decode mi_X0_fillImages.2.1 95 = .ok (.aload_n 0, 1) := by decide +kernel
theorem dX0_fillImages_96 : decode mi_X0_fillImages.2.1 96 = .ok (.getfield 28, 3) := by decide +kernel
theorem dX0_fillImages_99 : decode mi_X0_fillImages.2.1 99 = .ok (.getfield 122, 3) := by decide +kernel
theorem dX0_fillImages_102 : decode mi_X0_fillImages.2.1 102 = .ok (.if_icmp .ge 74, 3) := by decide +kernel
theorem dX0_fillImages_105 : decode mi_X0_fillImages.2.1 105 = .ok (.iload 9, 2) := by decide +kernel
theorem dX0_fillImages_107 : decode mi_X0_fillImages.2.1 107 = .ok (.bipush 25, 2) := by decide +kernel
theorem dX0_fillImages_109 : decode mi_X0_fillImages.2.1 109 = .ok (.if_icmp .ge 67, 3) := by decide +kernel
theorem dX0_fillImages_112 : decode mi_X0_fillImages.2.1 112 = .ok (.aload_n 0, 1) := by decide +kernel
theorem dX0_fillImages_113 : decode mi_X0_fillImages.2.1 113 = .ok (.getfield 25, 3) := by decide +kernel
theorem dX0_fillImages_116 : decode mi_X0_fillImages.2.1 116 = .ok (.iload 9, 2) := by decide +kernel
theorem dX0_fillImages_118 : decode mi_X0_fillImages.2.1 118 = .ok (.aload_n 0, 1) := by decide +kernel
theorem dX0_fillImages_119 : decode mi_X0_fillImages.2.1 119 = .ok (.getfield 28, 3) := by decide +kernel
theorem dX0_fillImages_122 : decode mi_X0_fillImages.2.1 122 = .ok (.aload_n 0, 1) := by decide +kernel
theorem dX0_fillImages_123 : decode mi_X0_fillImages.2.1 123 = .ok (.getfield 28, 3) := by decide +kernel
theorem dX0_fillImages_126 : decode mi_X0_fillImages.2.1 126 = .ok (.iload_n 3, 1) := by decide +kernel
theorem dX0_fillImages_127 : decode mi_X0_fillImages.2.1 127 = .ok (.iload 10, 2) := by decide +kernel
theorem dX0_fillImages_129 : decode mi_X0_fillImages.2.1 129 = .ok (.imul, 1) := by decide +kernel
theorem dX0_fillImages_130 : decode mi_X0_fillImages.2.1 130 = .ok (.iload 4, 2) := by decide +kernel
theorem dX0_fillImages_132 : decode mi_X0_fillImages.2.1 132 = .ok (.iload 11, 2) := by decide +kernel
theorem dX0_fillImages_134 : decode mi_X0_fillImages.2.1 134 = .ok (.imul, 1) := by decide +kernel
theorem dX0_fillImages_135 : decode mi_X0_fillImages.2.1 135 = .ok (.iadd, 1) := by decide +kernel
theorem dX0_fillImages_136 : decode mi_X0_fillImages.2.1 136 = .ok (.iload 7, 2) := by decide +kernel
theorem dX0_fillImages_138 : decode mi_X0_fillImages.2.1 138 = .ok (.iadd, 1) := by decide +kernel
theorem dX0_fillImages_139 : decode mi_X0_fillImages.2.1 139 = .ok (.invokevirtual 125, 3) := by decide +kernel
theorem dX0_fillImages_142 : decode mi_X0_fillImages.2.1 142 = .ok (.aload_n 0, 1) := by decide +kernel
theorem dX0_fillImages_143 : decode mi_X0_fillImages.2.1 143 = .ok (.getfield 28, 3) := by decide +kernel
theorem dX0_fillImages_146 : decode mi_X0_fillImages.2.1 146 = .ok (.iload 5, 2) := by decide +kernel
theorem dX0_fillImages_148 : decode mi_X0_fillImages.2.1 148 = .ok (.iload 10, 2) := by decide +kernel
theorem dX0_fillImages_150 : decode mi_X0_fillImages.2.1 150 = .ok (.imul, 1) := by decide +kernel
theorem dX0_fillImages_151 : decode mi_X0_fillImages.2.1 151 = .ok (.iload 6, 2) := by decide +kernel
theorem dX0_fillImages_153 : decode mi_X0_fillImages.2.1 153 = .ok (.iload 11, 2) := by decide +kernel
theorem dX0_fillImages_155 : decode mi_X0_fillImages.2.1 155 = .ok (.imul, 1) := by decide +kernel
theorem dX0_fillImages_156 : decode mi_X0_fillImages.2.1 156 = .ok (.iadd, 1) := by decide +kernel
theorem dX0_fillImages_157 : decode mi_X0_fillImages.2.1 157 = .ok (.iload 8, 2) := by decide +kernel
theorem dX0_fillImages_159 : decode mi_X0_fillImages.2.1 159 = .ok (.iadd, 1) := by decide +kernel
theorem dX0_fillImages_160 : decode mi_X0_fillImages.2.1 160 = .ok (.invokevirtual 125, 3) := by decide +kernel
theorem dX0_fillImages_163 : decode mi_X0_fillImages.2.1 163 = .ok (.invokevirtual 128, 3) := by decide +kernel
theorem dX0_fillImages_166 : decode mi_X0_fillImages.2.1 166 = .ok (.iastore, 1) := by decide +kernel
theorem dX0_fillImages_167 : decode mi_X0_fillImages.2.1 167 = .ok (.iinc 9 1, 3) := by decide +kernel
theorem dX0_fillImages_170 : decode mi_X0_fillImages.2.1 170 = .ok (.iinc 11 1, 3) := by decide +kernel
theorem dX0_fillImages_173 : decode mi_X0_fillImages.2.1 173 = .ok (.goto (-80), 3) := by decide +kernel
theorem dX0_fillImages_176 : decode mi_X0_fillImages.2.1 176 = .ok (.iinc 10 1, 3) := by decide +kernel
theorem dX0_fillImages_179 : decode mi_X0_fillImages.2.1 179 = .ok (.goto (-101), 3) := by decide +kernel
theorem dX0_fillImages_182 : decode mi_X0_fillImages.2.1 182 = .ok (.return_, 1) := by decide +kernel
theorem dX1_survey_0 : decode mi_X1_survey.2.1 0 = .ok (.aload_n 0, 1) := by decide +kernel
theorem dX1_survey_1 : decode mi_X1_survey.2.1 1 = .ok (.getfield 9, 3) := by decide +kernel
theorem dX1_survey_4 : decode mi_X1_survey.2.1 4 = .ok (.invokestatic 30, 3) := by decide +kernel
theorem dX1_survey_7 : decode mi_X1_survey.2.1 7 = .ok (.aload_n 0, 1) := by decide +kernel
theorem dX1_survey_8 : decode mi_X1_survey.2.1 8 = .ok (.getfield 15, 3) := by decide +kernel
theorem dX1_survey_11 : decode mi_X1_survey.2.1 11 = .ok (.invokestatic 30, 3) := by decide +kernel
theorem dX1_survey_14 : decode mi_X1_survey.2.1 14 = .ok (.iconst 0, 1) := by decide +kernel
theorem dX1_survey_15 : decode mi_X1_survey.2.1 15 = .ok (.istore_n 1, 1) := by decide +kernel
theorem dX1_survey_16 : decode mi_X1_survey.2.1 16 = .ok (.iload_n 1, 1) := by decide +kernel
theorem dX1_survey_17 : decode mi_X1_survey.2.1 17 = .ok (.iconst 4, 1) := by decide +kernel
theorem dX1_survey_18 : decode mi_X1_survey.2.1 18 = .ok (.if_icmp .ge 16, 3) := by decide +kernel
theorem dX1_survey_21 : decode mi_X1_survey.2.1 21 = .ok (.aload_n 0, 1) := by decide +kernel
theorem dX1_survey_22 : decode mi_X1_survey.2.1 22 = .ok (.getfield 18, 3) := by decide +kernel
theorem dX1_survey_25 : decode mi_X1_survey.2.1 25 = .ok (.iload_n 1, 1) := by decide +kernel
theorem dX1_survey_26 : decode mi_X1_survey.2.1 26 = .ok (.iconst 0, 1) := by decide +kernel
theorem dX1_survey_27 : decode mi_X1_survey.2.1 27 = .ok (.iastore, 1) := by decide +kernel
theorem dX1_survey_28 : decode mi_X1_survey.2.1 28 = .ok (.iinc 1 1, 3) := by decide +kernel
theorem dX1_survey_31 : decode mi_X1_survey.2.1 31 = .ok (.goto (-15), 3) := by decide +kernel
theorem dX1_survey_34 : decode mi_X1_survey.2.1 34 = .ok (.iconst 0, 1) := by decide +kernel
theorem dX1_survey_35 : decode mi_X1_survey.2.1 35 = .ok (.istore_n 1, 1) := by decide +kernel
theorem dX1_survey_36 : decode mi_X1_survey.2.1 36 = .ok (.iload_n 1, 1) := by decide +kernel
theorem dX1_survey_37 : decode mi_X1_survey.2.1 37 = .ok (.aload_n 0, 1) := by decide +kernel
theorem dX1_survey_38 : decode mi_X1_survey.2.1 38 = .ok (.getfield 26, 3) := by decide +kernel
theorem dX1_survey_41 : decode mi_X1_survey.2.1 41 = .ok (.invokevirtual 34, 3) := by decide +kernel
theorem dX1_survey_44 : decode mi_X1_survey.2.1 44 = .ok (.if_icmp .ge 21, 3) := by decide +kernel
theorem dX1_survey_47 : decode mi_X1_survey.2.1 47 = .ok (.aload_n 0, 1) := by decide +kernel
theorem dX1_survey_48 : decode mi_X1_survey.2.1 48 = .ok (.aload_n 0, 1) := by decide +kernel
theorem dX1_survey_49 : decode mi_X1_survey.2.1 49 = .ok (.getfield 26, 3) := by decide +kernel
theorem dX1_survey_52 : decode mi_X1_survey.2.1 52 = .ok (.iload_n 1, 1) := by decide +kernel
theorem dX1_survey_53 : decode mi_X1_survey.2.1 53 = .ok (.invokevirtual 40, 3) := by decide +kernel
theorem dX1_survey_56 : decode mi_X1_survey.2.1 56 = .ok (.invokevirtual 44, 3) := by decide +kernel
theorem dX1_survey_59 : decode mi_X1_survey.2.1 59 = .ok (.iinc 1 1, 3) := by decide +kernel
theorem dX1_survey_62 : decode mi_X1_survey.2.1 62 = .ok (.goto (-26), 3) := by decide +kernel
theorem dX1_survey_65 : decode mi_X1_survey.2.1 65 = .ok (.return_, 1) := by decide +kernel
theorem dX1_note_0 : decode mi_X1_note.2.1 0 = .ok (.aload_n 0, 1) := by decide +kernel
theorem dX1_note_1 : decode mi_X1_note.2.1 1 = .ok (.getfield 22, 3) := by decide +kernel
theorem dX1_note_4 : decode mi_X1_note.2.1 4 = .ok (.iload_n 1, 1) := by decide +kernel
theorem dX1_note_5 : decode mi_X1_note.2.1 5 = .ok (.invokevirtual 48, 3) := by decide +kernel
theorem dX1_note_8 : decode mi_X1_note.2.1 8 = .ok (.istore_n 2, 1) := by decide +kernel
theorem dX1_note_9 : decode mi_X1_note.2.1 9 = .ok (.aload_n 0, 1) := by decide +kernel
theorem dX1_note_10 : decode mi_X1_note.2.1 10 = .ok (.getfield 22, 3) := by decide +kernel
theorem dX1_note_13 : decode mi_X1_note.2.1 13 = .ok (.iload_n 1, 1) := by decide +kernel
theorem dX1_note_14 : decode mi_X1_note.2.1 14 = .ok (.invokevirtual 53, 3) := by decide +kernel
theorem dX1_note_17 : decode mi_X1_note.2.1 17 = .ok (.istore_n 3, 1) := by decide +kernel
theorem dX1_note_18 : decode mi_X1_note.2.1 18 = .ok (.iload_n 2, 1) := by decide +kernel
theorem dX1_note_19 : decode mi_X1_note.2.1 19 = .ok (.bipush 12, 2) := by decide +kernel
theorem dX1_note_21 : decode mi_X1_note.2.1 21 = .ok (.invokestatic 56, 3) := by decide +kernel
theorem dX1_note_24 : decode mi_X1_note.2.1 24 = .ok (.ifCond .eq 53, 3) := by decide +kernel
theorem dX1_note_27 : decode mi_X1_note.2.1 27 = .ok (.iload_n 3, 1) := by decide +kernel
theorem dX1_note_28 : decode mi_X1_note.2.1 28 = .ok (.iconst 4, 1) := by decide +kernel
theorem dX1_note_29 : decode mi_X1_note.2.1 29 = .ok (.invokestatic 56, 3) := by decide +kernel
theorem dX1_note_32 : decode mi_X1_note.2.1 32 = .ok (.ifCond .eq 45, 3) := by decide +kernel
theorem dX1_note_35 : decode mi_X1_note.2.1 35 = .ok (.aload_n 0, 1) := by decide +kernel
theorem dX1_note_36 : decode mi_X1_note.2.1 36 = .ok (.getfield 9, 3) := by decide +kernel
theorem dX1_note_39 : decode mi_X1_note.2.1 39 = .ok (.iload_n 2, 1) := by decide +kernel
theorem dX1_note_40 : decode mi_X1_note.2.1 40 = .ok (.iconst 1, 1) := by decide +kernel
theorem dX1_note_41 : decode mi_X1_note.2.1 41 = .ok (.bastore, 1) := by decide +kernel
theorem dX1_note_42 : decode mi_X1_note.2.1 42 = .ok (.aload_n 0, 1) := by decide +kernel
theorem dX1_note_43 : decode mi_X1_note.2.1 43 = .ok (.getfield 15, 3) := by decide +kernel
theorem dX1_note_46 : decode mi_X1_note.2.1 46 = .ok (.iload_n 2, 1) := by decide +kernel
theorem dX1_note_47 : decode mi_X1_note.2.1 47 = .ok (.aload_n 0, 1) := by decide +kernel
theorem dX1_note_48 : decode mi_X1_note.2.1 48 = .ok (.getfield 15, 3) := by decide +kernel
theorem dX1_note_51 : decode mi_X1_note.2.1 51 = .ok (.iload_n 2, 1) := by decide +kernel
theorem dX1_note_52 : decode mi_X1_note.2.1 52 = .ok (.baload, 1) := by decide +kernel
theorem dX1_note_53 : decode mi_X1_note.2.1 53 = .ok (.ifCond .ne 8, 3) := by decide +kernel
theorem dX1_note_56 : decode mi_X1_note.2.1 56 = .ok (.iload_n 3, 1) := by decide +kernel
theorem dX1_note_57 : decode mi_X1_note.2.1 57 = .ok (.iconst 2, 1) := by decide +kernel
theorem dX1_note_58 : decode mi_X1_note.2.1 58 = .ok (.if_icmp .ne 7, 3) := by decide +kernel
theorem dX1_note_61 : decode mi_X1_note.2.1 61 = .ok (.iconst 1, 1) := by decide +kernel
theorem dX1_note_62 : decode mi_X1_note.2.1 62 = .ok (.goto 4, 3) := by decide +kernel
theorem dX1_note_65 : decode mi_X1_note.2.1 65 = .ok (.iconst 0, 1) := by decide +kernel
theorem dX1_note_66 : decode mi_X1_note.2.1 66 = .ok (.bastore, 1) := by decide +kernel
theorem dX1_note_67 : decode mi_X1_note.2.1 67 = .ok (.aload_n 0, 1) := by decide +kernel
theorem dX1_note_68 : decode mi_X1_note.2.1 68 = .ok (.getfield 18, 3) := by decide +kernel
theorem dX1_note_71 : decode mi_X1_note.2.1 71 = .ok (.iload_n 3, 1) := by decide +kernel
theorem dX1_note_72 : decode mi_X1_note.2.1 72 = .ok (.dup2, 1) := by decide +kernel
theorem dX1_note_73 : decode mi_X1_note.2.1 73 = .ok (.iaload, 1) := by decide +kernel
theorem dX1_note_74 : decode mi_X1_note.2.1 74 = .ok (.iconst 1, 1) := by decide +kernel
theorem dX1_note_75 : decode mi_X1_note.2.1 75 = .ok (.iadd, 1) := by decide +kernel
theorem dX1_note_76 : decode mi_X1_note.2.1 76 = .ok (.iastore, 1) := by decide +kernel
theorem dX1_note_77 : decode mi_X1_note.2.1 77 = .ok (.return_, 1) := by decide +kernel
theorem dX1_elementsOfKind_0 : decode mi_X1_elementsOfKind.2.1 0 = .ok (.iload_n 1, 1) := by decide +kernel
theorem dX1_elementsOfKind_1 : decode mi_X1_elementsOfKind.2.1 1 = .ok (.iconst 4, 1) := by decide +kernel
theorem dX1_elementsOfKind_2 : decode mi_X1_elementsOfKind.2.1 2 = .ok (.invokestatic 56, 3) := by decide +kernel
theorem dX1_elementsOfKind_5 : decode mi_X1_elementsOfKind.2.1 5 = .ok (.ifCond .eq 12, 3) := by decide +kernel
theorem dX1_elementsOfKind_8 : decode mi_X1_elementsOfKind.2.1 8 = .ok (.aload_n 0, 1) := by decide +kernel
theorem dX1_elementsOfKind_9 : decode mi_X1_elementsOfKind.2.1 9 = .ok (.getfield 18, 3) := by decide +kernel
theorem dX1_elementsOfKind_12 : decode mi_X1_elementsOfKind.2.1 12 = .ok (.iload_n 1, 1) := by decide +kernel
theorem dX1_elementsOfKind_13 : decode mi_X1_elementsOfKind.2.1 13 = .ok (.iaload, 1) := by decide +kernel
theorem dX1_elementsOfKind_14 : decode mi_X1_elementsOfKind.2.1 14 = .ok (.goto 4, 3) := by decide +kernel
theorem dX1_elementsOfKind_17 : decode mi_X1_elementsOfKind.2.1 17 = .ok (.iconst 0, 1) := by decide +kernel
theorem dX1_elementsOfKind_18 : decode mi_X1_elementsOfKind.2.1 18 = .ok (.ireturn, 1) := by decide +kernel
theorem dX1_countParts_0 : decode mi_X1_countParts.2.1 0 = .ok (.aload_n 0, 1) := by decide +kernel
theorem dX1_countParts_1 : decode mi_X1_countParts.2.1 1 = .ok (.getfield 9, 3) := by decide +kernel
theorem dX1_countParts_4 : decode mi_X1_countParts.2.1 4 = .ok (.invokestatic 60, 3) := by decide +kernel
theorem dX1_countParts_7 : decode mi_X1_countParts.2.1 7 = .ok (.ireturn, 1) := by decide +kernel
theorem dX1_countMirrorParts_0 : decode mi_X1_countMirrorParts.2.1 0 = .ok (.aload_n 0, 1) := by decide +kernel
theorem dX1_countMirrorParts_1 : decode mi_X1_countMirrorParts.2.1 1 = .ok (.getfield 15, 3) := by decide +kernel
theorem dX1_countMirrorParts_4 : decode mi_X1_countMirrorParts.2.1 4 = .ok (.invokestatic 60, 3) := by decide +kernel
theorem dX1_countMirrorParts_7 : decode mi_X1_countMirrorParts.2.1 7 = .ok (.ireturn, 1) := by decide +kernel
theorem dX1_greatestTurnOrder_0 : decode mi_X1_greatestTurnOrder.2.1 0 = .ok (.iconst 1, 1) := by decide +kernel
theorem dX1_greatestTurnOrder_1 : decode mi_X1_greatestTurnOrder.2.1 1 = .ok (.istore_n 1, 1) := by decide +kernel
theorem dX1_greatestTurnOrder_2 : decode mi_X1_greatestTurnOrder.2.1 2 = .ok (.iconst 0, 1) := by decide +kernel
theorem dX1_greatestTurnOrder_3 : decode mi_X1_greatestTurnOrder.2.1 3 = .ok (.istore_n 2, 1) := by decide +kernel
theorem dX1_greatestTurnOrder_4 : decode mi_X1_greatestTurnOrder.2.1 4 = .ok (.iload_n 2, 1) := by decide +kernel
theorem dX1_greatestTurnOrder_5 : decode mi_X1_greatestTurnOrder.2.1 5 = .ok (.aload_n 0, 1) := by decide +kernel
theorem dX1_greatestTurnOrder_6 : decode mi_X1_greatestTurnOrder.2.1 6 = .ok (.getfield 22, 3) := by decide +kernel
theorem dX1_greatestTurnOrder_9 : decode mi_X1_greatestTurnOrder.2.1 9 = .ok (.invokevirtual 64, 3) := by decide +kernel
theorem dX1_greatestTurnOrder_12 : decode mi_X1_greatestTurnOrder.2.1 12 = .ok (.if_icmp .ge 30, 3) := by decide +kernel
theorem dX1_greatestTurnOrder_15 : decode mi_X1_greatestTurnOrder.2.1 15 = .ok (.aload_n 0, 1) := by decide +kernel
theorem dX1_greatestTurnOrder_16 : decode mi_X1_greatestTurnOrder.2.1 16 = .ok (.iload_n 2, 1) := by decide +kernel
theorem dX1_greatestTurnOrder_17 : decode mi_X1_greatestTurnOrder.2.1 17 = .ok (.invokevirtual 67, 3) := by decide +kernel
theorem dX1_greatestTurnOrder_20 : decode mi_X1_greatestTurnOrder.2.1 20 = .ok (.ifCond .eq 16, 3) := by decide +kernel
theorem dX1_greatestTurnOrder_23 : decode mi_X1_greatestTurnOrder.2.1 23 = .ok (.iload_n 1, 1) := by decide +kernel
theorem dX1_greatestTurnOrder_24 : decode mi_X1_greatestTurnOrder.2.1 24 = .ok (.aload_n 0, 1) := by decide +kernel
theorem dX1_greatestTurnOrder_25 : decode mi_X1_greatestTurnOrder.2.1 25 = .ok (.getfield 22, 3) := by decide +kernel
theorem dX1_greatestTurnOrder_28 : decode mi_X1_greatestTurnOrder.2.1 28 = .ok (.iload_n 2, 1) := by decide +kernel
theorem dX1_greatestTurnOrder_29 : decode mi_X1_greatestTurnOrder.2.1 29 = .ok (.invokevirtual 71, 3) := by decide +kernel
theorem dX1_greatestTurnOrder_32 : decode mi_X1_greatestTurnOrder.2.1 32 = .ok (.invokestatic 74, 3) := by decide +kernel
theorem dX1_greatestTurnOrder_35 : decode mi_X1_greatestTurnOrder.2.1 35 = .ok (.istore_n 1, 1) := by decide +kernel
theorem dX1_greatestTurnOrder_36 : decode mi_X1_greatestTurnOrder.2.1 36 = .ok (.iinc 2 1, 3) := by decide +kernel
theorem dX1_greatestTurnOrder_39 : decode mi_X1_greatestTurnOrder.2.1 39 = .ok (.goto (-35), 3) := by decide +kernel
theorem dX1_greatestTurnOrder_42 : decode mi_X1_greatestTurnOrder.2.1 42 = .ok (.iload_n 1, 1) := by decide +kernel
theorem dX1_greatestTurnOrder_43 : decode mi_X1_greatestTurnOrder.2.1 43 = .ok (.ireturn, 1) := by decide +kernel
theorem dX1_occurs_0 : decode mi_X1_occurs.2.1 0 = .ok (.iload_n 1, 1) := by decide +kernel
theorem dX1_occurs_1 : decode mi_X1_occurs.2.1 1 = .ok (.bipush 12, 2) := by decide +kernel
theorem dX1_occurs_3 : decode mi_X1_occurs.2.1 3 = .ok (.invokestatic 56, 3) := by decide +kernel
theorem dX1_occurs_6 : decode mi_X1_occurs.2.1 6 = .ok (.ifCond .eq 16, 3) := by decide +kernel
theorem dX1_occurs_9 : decode mi_X1_occurs.2.1 9 = .ok (.aload_n 0, 1) := by decide +kernel
theorem dX1_occurs_10 : decode mi_X1_occurs.2.1 10 = .ok (.getfield 9, 3) := by decide +kernel
theorem dX1_occurs_13 : decode mi_X1_occurs.2.1 13 = .ok (.iload_n 1, 1) := by decide +kernel
theorem dX1_occurs_14 : decode mi_X1_occurs.2.1 14 = .ok (.baload, 1) := by decide +kernel
theorem dX1_occurs_15 : decode mi_X1_occurs.2.1 15 = .ok (.ifCond .eq 7, 3) := by decide +kernel
theorem dX1_occurs_18 : decode mi_X1_occurs.2.1 18 = .ok (.iconst 1, 1) := by decide +kernel
theorem dX1_occurs_19 : decode mi_X1_occurs.2.1 19 = .ok (.goto 4, 3) := by decide +kernel
theorem dX1_occurs_22 : decode mi_X1_occurs.2.1 22 = .ok (.iconst 0, 1) := by decide +kernel
theorem dX1_occurs_23 : decode mi_X1_occurs.2.1 23 = .ok (.ireturn, 1) := by decide +kernel
theorem dX1_hasReversal_0 : decode mi_X1_hasReversal.2.1 0 = .ok (.aload_n 0, 1) := by decide +kernel
theorem dX1_hasReversal_1 : decode mi_X1_hasReversal.2.1 1 = .ok (.getfield 22, 3) := by decide +kernel
theorem dX1_hasReversal_4 : decode mi_X1_hasReversal.2.1 4 = .ok (.invokevirtual 64, 3) := by decide +kernel
theorem dX1_hasReversal_7 : decode mi_X1_hasReversal.2.1 7 = .ok (.istore_n 1, 1) := by decide +kernel
theorem dX1_hasReversal_8 : decode mi_X1_hasReversal.2.1 8 = .ok (.iload_n 1, 1) := by decide +kernel
theorem dX1_hasReversal_9 : decode mi_X1_hasReversal.2.1 9 = .ok (.aload_n 0, 1) := by decide +kernel
theorem dX1_hasReversal_10 : decode mi_X1_hasReversal.2.1 10 = .ok (.getfield 22, 3) := by decide +kernel
theorem dX1_hasReversal_13 : decode mi_X1_hasReversal.2.1 13 = .ok (.invokevirtual 80, 3) := by decide +kernel
theorem dX1_hasReversal_16 : decode mi_X1_hasReversal.2.1 16 = .ok (.if_icmp .ge 19, 3) := by decide +kernel
theorem dX1_hasReversal_19 : decode mi_X1_hasReversal.2.1 19 = .ok (.aload_n 0, 1) := by decide +kernel
theorem dX1_hasReversal_20 : decode mi_X1_hasReversal.2.1 20 = .ok (.iload_n 1, 1) := by decide +kernel
theorem dX1_hasReversal_21 : decode mi_X1_hasReversal.2.1 21 = .ok (.invokevirtual 67, 3) := by decide +kernel
theorem dX1_hasReversal_24 : decode mi_X1_hasReversal.2.1 24 = .ok (.ifCond .eq 5, 3) := by decide +kernel
theorem dX1_hasReversal_27 : decode mi_X1_hasReversal.2.1 27 = .ok (.iconst 1, 1) := by decide +kernel
theorem dX1_hasReversal_28 : decode mi_X1_hasReversal.2.1 28 = .ok (.ireturn, 1) := by decide +kernel
theorem dX1_hasReversal_29 : decode mi_X1_hasReversal.2.1 29 = .ok (.iinc 1 1, 3) := by decide +kernel
theorem dX1_hasReversal_32 : decode mi_X1_hasReversal.2.1 32 = .ok (.goto (-24), 3) := by decide +kernel
theorem dX1_hasReversal_35 : decode mi_X1_hasReversal.2.1 35 = .ok (.iconst 0, 1) := by decide +kernel
theorem dX1_hasReversal_36 : decode mi_X1_hasReversal.2.1 36 = .ok (.ireturn, 1) := by decide +kernel
theorem dX1_hasCentering_0 : decode mi_X1_hasCentering.2.1 0 = .ok (.iconst 0, 1) := by decide +kernel
theorem dX1_hasCentering_1 : decode mi_X1_hasCentering.2.1 1 = .ok (.istore_n 1, 1) := by decide +kernel
theorem dX1_hasCentering_2 : decode mi_X1_hasCentering.2.1 2 = .ok (.iload_n 1, 1) := by decide +kernel
theorem dX1_hasCentering_3 : decode mi_X1_hasCentering.2.1 3 = .ok (.bipush 12, 2) := by decide +kernel
theorem dX1_hasCentering_5 : decode mi_X1_hasCentering.2.1 5 = .ok (.if_icmp .ge 28, 3) := by decide +kernel
theorem dX1_hasCentering_8 : decode mi_X1_hasCentering.2.1 8 = .ok (.aload_n 0, 1) := by decide +kernel
theorem dX1_hasCentering_9 : decode mi_X1_hasCentering.2.1 9 = .ok (.getfield 15, 3) := by decide +kernel
theorem dX1_hasCentering_12 : decode mi_X1_hasCentering.2.1 12 = .ok (.iload_n 1, 1) := by decide +kernel
theorem dX1_hasCentering_13 : decode mi_X1_hasCentering.2.1 13 = .ok (.baload, 1) := by decide +kernel
theorem dX1_hasCentering_14 : decode mi_X1_hasCentering.2.1 14 = .ok (.ifCond .eq 13, 3) := by decide +kernel
theorem dX1_hasCentering_17 : decode mi_X1_hasCentering.2.1 17 = .ok (.aload_n 0, 1) := by decide +kernel
theorem dX1_hasCentering_18 : decode mi_X1_hasCentering.2.1 18 = .ok (.iload_n 1, 1) := by decide +kernel
theorem dX1_hasCentering_19 : decode mi_X1_hasCentering.2.1 19 = .ok (.invokevirtual 83, 3) := by decide +kernel
theorem dX1_hasCentering_22 : decode mi_X1_hasCentering.2.1 22 = .ok (.ifCond .ne 5, 3) := by decide +kernel
theorem dX1_hasCentering_25 : decode mi_X1_hasCentering.2.1 25 = .ok (.iconst 1, 1) := by decide +kernel
theorem dX1_hasCentering_26 : decode mi_X1_hasCentering.2.1 26 = .ok (.ireturn, 1) := by decide +kernel
theorem dX1_hasCentering_27 : decode mi_X1_hasCentering.2.1 27 = .ok (.iinc 1 1, 3) := by decide +kernel
theorem dX1_hasCentering_30 : decode mi_X1_hasCentering.2.1 30 = .ok (.goto (-28), 3) := by decide +kernel
theorem dX1_hasCentering_33 : decode mi_X1_hasCentering.2.1 33 = .ok (.iconst 0, 1) := by decide +kernel
theorem dX1_hasCentering_34 : decode mi_X1_hasCentering.2.1 34 = .ok (.ireturn, 1) := by decide +kernel
theorem dX1_keepsHalfSums_0 : decode mi_X1_keepsHalfSums.2.1 0 = .ok (.aload_n 0, 1) := by decide +kernel
theorem dX1_keepsHalfSums_1 : decode mi_X1_keepsHalfSums.2.1 1 = .ok (.iload_n 1, 1) := by decide +kernel
theorem dX1_keepsHalfSums_2 : decode mi_X1_keepsHalfSums.2.1 2 = .ok (.aload_n 0, 1) := by decide +kernel
theorem dX1_keepsHalfSums_3 : decode mi_X1_keepsHalfSums.2.1 3 = .ok (.getfield 22, 3) := by decide +kernel
theorem dX1_keepsHalfSums_6 : decode mi_X1_keepsHalfSums.2.1 6 = .ok (.getfield 86, 3) := by decide +kernel
theorem dX1_keepsHalfSums_9 : decode mi_X1_keepsHalfSums.2.1 9 = .ok (.iconst 0, 1) := by decide +kernel
theorem dX1_keepsHalfSums_10 : decode mi_X1_keepsHalfSums.2.1 10 = .ok (.invokevirtual 90, 3) := by decide +kernel
theorem dX1_keepsHalfSums_13 : decode mi_X1_keepsHalfSums.2.1 13 = .ok (.ifCond .eq 19, 3) := by decide +kernel
theorem dX1_keepsHalfSums_16 : decode mi_X1_keepsHalfSums.2.1 16 = .ok (.aload_n 0, 1) := by decide +kernel
theorem dX1_keepsHalfSums_17 : decode mi_X1_keepsHalfSums.2.1 17 = .ok (.iload_n 1, 1) := by decide +kernel
theorem dX1_keepsHalfSums_18 : decode mi_X1_keepsHalfSums.2.1 18 = .ok (.iconst 0, 1) := by decide +kernel
theorem dX1_keepsHalfSums_19 : decode mi_X1_keepsHalfSums.2.1 19 = .ok (.aload_n 0, 1) := by decide +kernel
theorem dX1_keepsHalfSums_20 : decode mi_X1_keepsHalfSums.2.1 20 = .ok (.getfield 22, 3) := by decide +kernel
theorem dX1_keepsHalfSums_23 : decode mi_X1_keepsHalfSums.2.1 23 = .ok (.getfield 86, 3) := by decide +kernel
theorem dX1_keepsHalfSums_26 : decode mi_X1_keepsHalfSums.2.1 26 = .ok (.invokevirtual 90, 3) := by decide +kernel
theorem dX1_keepsHalfSums_29 : decode mi_X1_keepsHalfSums.2.1 29 = .ok (.ifCond .ne 5, 3) := by decide +kernel
theorem dX1_keepsHalfSums_32 : decode mi_X1_keepsHalfSums.2.1 32 = .ok (.iconst 0, 1) := by decide +kernel
theorem dX1_keepsHalfSums_33 : decode mi_X1_keepsHalfSums.2.1 33 = .ok (.ireturn, 1) := by decide +kernel
theorem dX1_keepsHalfSums_34 : decode mi_X1_keepsHalfSums.2.1 34 = .ok (.iconst 0, 1) := by decide +kernel
theorem dX1_keepsHalfSums_35 : decode mi_X1_keepsHalfSums.2.1 35 = .ok (.istore_n 2, 1) := by decide +kernel
theorem dX1_keepsHalfSums_36 : decode mi_X1_keepsHalfSums.2.1 36 = .ok (.iload_n 2, 1) := by decide +kernel
theorem dX1_keepsHalfSums_37 : decode mi_X1_keepsHalfSums.2.1 37 = .ok (.aload_n 0, 1) := by decide +kernel
theorem dX1_keepsHalfSums_38 : decode mi_X1_keepsHalfSums.2.1 38 = .ok (.getfield 22, 3) := by decide +kernel
theorem dX1_keepsHalfSums_41 : decode mi_X1_keepsHalfSums.2.1 41 = .ok (.getfield 86, 3) := by decide +kernel
theorem dX1_keepsHalfSums_44 : decode mi_X1_keepsHalfSums.2.1 44 = .ok (.if_icmp .ge 52, 3) := by decide +kernel
theorem dX1_keepsHalfSums_47 : decode mi_X1_keepsHalfSums.2.1 47 = .ok (.iconst 0, 1) := by decide +kernel
theorem dX1_keepsHalfSums_48 : decode mi_X1_keepsHalfSums.2.1 48 = .ok (.istore_n 3, 1) := by decide +kernel
theorem dX1_keepsHalfSums_49 : decode mi_X1_keepsHalfSums.2.1 49 = .ok (.iload_n 3, 1) := by decide +kernel
theorem dX1_keepsHalfSums_50 : decode mi_X1_keepsHalfSums.2.1 50 = .ok (.aload_n 0, 1) := by decide +kernel
theorem dX1_keepsHalfSums_51 : decode mi_X1_keepsHalfSums.2.1 51 = .ok (.getfield 22, 3) := by decide +kernel
theorem dX1_keepsHalfSums_54 : decode mi_X1_keepsHalfSums.2.1 54 = .ok (.getfield 86, 3) := by decide +kernel
theorem dX1_keepsHalfSums_57 : decode mi_X1_keepsHalfSums.2.1 57 = .ok (.if_icmp .ge 33, 3) := by decide +kernel
theorem dX1_keepsHalfSums_60 : decode mi_X1_keepsHalfSums.2.1 60 = .ok (.aload_n 0, 1) := by decide +kernel
theorem dX1_keepsHalfSums_61 : decode mi_X1_keepsHalfSums.2.1 61 = .ok (.getfield 26, 3) := by decide +kernel
theorem dX1_keepsHalfSums_64 : decode mi_X1_keepsHalfSums.2.1 64 = .ok (.iload_n 2, 1) := by decide +kernel
theorem dX1_keepsHalfSums_65 : decode mi_X1_keepsHalfSums.2.1 65 = .ok (.iload_n 3, 1) := by decide +kernel
theorem dX1_keepsHalfSums_66 : decode mi_X1_keepsHalfSums.2.1 66 = .ok (.invokevirtual 94, 3) := by decide +kernel
theorem dX1_keepsHalfSums_69 : decode mi_X1_keepsHalfSums.2.1 69 = .ok (.ifCond .eq 15, 3) := by decide +kernel
theorem dX1_keepsHalfSums_72 : decode mi_X1_keepsHalfSums.2.1 72 = .ok (.aload_n 0, 1) := by decide +kernel
theorem dX1_keepsHalfSums_73 : decode mi_X1_keepsHalfSums.2.1 73 = .ok (.iload_n 1, 1) := by decide +kernel
theorem dX1_keepsHalfSums_74 : decode mi_X1_keepsHalfSums.2.1 74 = .ok (.iload_n 2, 1) := by decide +kernel
theorem dX1_keepsHalfSums_75 : decode mi_X1_keepsHalfSums.2.1 75 = .ok (.iload_n 3, 1) := by decide +kernel
theorem dX1_keepsHalfSums_76 : decode mi_X1_keepsHalfSums.2.1 76 = .ok (.invokevirtual 90, 3) := by decide +kernel
theorem dX1_keepsHalfSums_79 : decode mi_X1_keepsHalfSums.2.1 79 = .ok (.ifCond .ne 5, 3) := by decide +kernel
theorem dX1_keepsHalfSums_82 : decode mi_X1_keepsHalfSums.2.1 82 = .ok (.iconst 0, 1) := by decide +kernel
theorem dX1_keepsHalfSums_83 : decode mi_X1_keepsHalfSums.2.1 83 = .ok (.ireturn, 1) := by decide +kernel
theorem dX1_keepsHalfSums_84 : decode mi_X1_keepsHalfSums.2.1 84 = .ok (.iinc 3 1, 3) := by decide +kernel
theorem dX1_keepsHalfSums_87 : decode mi_X1_keepsHalfSums.2.1 87 = .ok (.goto (-38), 3) := by decide +kernel
theorem dX1_keepsHalfSums_90 : decode mi_X1_keepsHalfSums.2.1 90 = .ok (.iinc 2 1, 3) := by decide +kernel
theorem dX1_keepsHalfSums_93 : decode mi_X1_keepsHalfSums.2.1 93 = .ok (.goto (-57), 3) := by decide +kernel
theorem dX1_keepsHalfSums_96 : decode mi_X1_keepsHalfSums.2.1 96 = .ok (.iconst 1, 1) := by decide +kernel
theorem dX1_keepsHalfSums_97 : decode mi_X1_keepsHalfSums.2.1 97 = .ok (.ireturn, 1) := by decide +kernel
theorem dX1_keepsHalfSum_0 : decode mi_X1_keepsHalfSum.2.1 0 = .ok (.iload_n 2, 1) := by decide +kernel
theorem dX1_keepsHalfSum_1 : decode mi_X1_keepsHalfSum.2.1 1 = .ok (.aload_n 0, 1) := by decide +kernel
theorem dX1_keepsHalfSum_2 : decode mi_X1_keepsHalfSum.2.1 2 = .ok (.getfield 22, 3) := by decide +kernel
theorem dX1_keepsHalfSum_5 : decode mi_X1_keepsHalfSum.2.1 5 = .ok (.iload_n 1, 1) := by decide +kernel
theorem dX1_keepsHalfSum_6 : decode mi_X1_keepsHalfSum.2.1 6 = .ok (.iload_n 2, 1) := by decide +kernel
theorem dX1_keepsHalfSum_7 : decode mi_X1_keepsHalfSum.2.1 7 = .ok (.iload_n 3, 1) := by decide +kernel
theorem dX1_keepsHalfSum_8 : decode mi_X1_keepsHalfSum.2.1 8 = .ok (.invokevirtual 97, 3) := by decide +kernel
theorem dX1_keepsHalfSum_11 : decode mi_X1_keepsHalfSum.2.1 11 = .ok (.iadd, 1) := by decide +kernel
theorem dX1_keepsHalfSum_12 : decode mi_X1_keepsHalfSum.2.1 12 = .ok (.istore 4, 2) := by decide +kernel
theorem dX1_keepsHalfSum_14 : decode mi_X1_keepsHalfSum.2.1 14 = .ok (.iload_n 3, 1) := by decide +kernel
theorem dX1_keepsHalfSum_15 : decode mi_X1_keepsHalfSum.2.1 15 = .ok (.aload_n 0, 1) := by decide +kernel
theorem dX1_keepsHalfSum_16 : decode mi_X1_keepsHalfSum.2.1 16 = .ok (.getfield 22, 3) := by decide +kernel
theorem dX1_keepsHalfSum_19 : decode mi_X1_keepsHalfSum.2.1 19 = .ok (.iload_n 1, 1) := by decide +kernel
theorem dX1_keepsHalfSum_20 : decode mi_X1_keepsHalfSum.2.1 20 = .ok (.iload_n 2, 1) := by decide +kernel
theorem dX1_keepsHalfSum_21 : decode mi_X1_keepsHalfSum.2.1 21 = .ok (.iload_n 3, 1) := by decide +kernel
theorem dX1_keepsHalfSum_22 : decode mi_X1_keepsHalfSum.2.1 22 = .ok (.invokevirtual 101, 3) := by decide +kernel
theorem dX1_keepsHalfSum_25 : decode mi_X1_keepsHalfSum.2.1 25 = .ok (.iadd, 1) := by decide +kernel
theorem dX1_keepsHalfSum_26 : decode mi_X1_keepsHalfSum.2.1 26 = .ok (.istore 5, 2) := by decide +kernel
theorem dX1_keepsHalfSum_28 : decode mi_X1_keepsHalfSum.2.1 28 = .ok (.iload 4, 2) := by decide +kernel
theorem dX1_keepsHalfSum_30 : decode mi_X1_keepsHalfSum.2.1 30 = .ok (.iconst 2, 1) := by decide +kernel
theorem dX1_keepsHalfSum_31 : decode mi_X1_keepsHalfSum.2.1 31 = .ok (.irem, 1) := by decide +kernel
theorem dX1_keepsHalfSum_32 : decode mi_X1_keepsHalfSum.2.1 32 = .ok (.ifCond .ne 32, 3) := by decide +kernel
theorem dX1_keepsHalfSum_35 : decode mi_X1_keepsHalfSum.2.1 35 = .ok (.iload 5, 2) := by decide +kernel
theorem dX1_keepsHalfSum_37 : decode mi_X1_keepsHalfSum.2.1 37 = .ok (.iconst 2, 1) := by decide +kernel
theorem dX1_keepsHalfSum_38 : decode mi_X1_keepsHalfSum.2.1 38 = .ok (.irem, 1) := by decide +kernel
theorem dX1_keepsHalfSum_39 : decode mi_X1_keepsHalfSum.2.1 39 = .ok (.ifCond .ne 25, 3) := by decide +kernel
theorem dX1_keepsHalfSum_42 : decode mi_X1_keepsHalfSum.2.1 42 = .ok (.aload_n 0, 1) := by decide +kernel
theorem dX1_keepsHalfSum_43 : decode mi_X1_keepsHalfSum.2.1 43 = .ok (.getfield 26, 3) := by decide +kernel
theorem dX1_keepsHalfSum_46 : decode mi_X1_keepsHalfSum.2.1 46 = .ok (.iload 4, 2) := by decide +kernel
theorem dX1_keepsHalfSum_48 : decode mi_X1_keepsHalfSum.2.1 48 = .ok (.iconst 2, 1) := by decide +kernel
theorem dX1_keepsHalfSum_49 : decode mi_X1_keepsHalfSum.2.1 49 = .ok (.idiv, 1) := by decide +kernel
theorem dX1_keepsHalfSum_50 : decode mi_X1_keepsHalfSum.2.1 50 = .ok (.iload 5, 2) := by decide +kernel
theorem dX1_keepsHalfSum_52 : decode mi_X1_keepsHalfSum.2.1 52 = .ok (.iconst 2, 1) := by decide +kernel
theorem dX1_keepsHalfSum_53 : decode mi_X1_keepsHalfSum.2.1 53 = .ok (.idiv, 1) := by decide +kernel
theorem dX1_keepsHalfSum_54 : decode mi_X1_keepsHalfSum.2.1 54 = .ok (.invokevirtual 94, 3) := by decide +kernel
theorem dX1_keepsHalfSum_57 : decode mi_X1_keepsHalfSum.2.1 57 = .ok (.ifCond .eq 7, 3) := by decide +kernel
theorem dX1_keepsHalfSum_60 : decode mi_X1_keepsHalfSum.2.1 60 = .ok (.iconst 1, 1) := by decide +kernel
theorem dX1_keepsHalfSum_61 : decode mi_X1_keepsHalfSum.2.1 61 = .ok (.goto 4, 3) := by decide +kernel
theorem dX1_keepsHalfSum_64 : decode mi_X1_keepsHalfSum.2.1 64 = .ok (.iconst 0, 1) := by decide +kernel
theorem dX1_keepsHalfSum_65 : decode mi_X1_keepsHalfSum.2.1 65 = .ok (.ireturn, 1) := by decide +kernel
theorem dX1_typeNumber_0 : decode mi_X1_typeNumber.2.1 0 = .ok (.aload_n 0, 1) := by decide +kernel
theorem dX1_typeNumber_1 : decode mi_X1_typeNumber.2.1 1 = .ok (.invokevirtual 104, 3) := by decide +kernel
theorem dX1_typeNumber_4 : decode mi_X1_typeNumber.2.1 4 = .ok (.istore_n 1, 1) := by decide +kernel
theorem dX1_typeNumber_5 : decode mi_X1_typeNumber.2.1 5 = .ok (.aload_n 0, 1) := by decide +kernel
theorem dX1_typeNumber_6 : decode mi_X1_typeNumber.2.1 6 = .ok (.invokevirtual 107, 3) := by decide +kernel
theorem dX1_typeNumber_9 : decode mi_X1_typeNumber.2.1 9 = .ok (.istore_n 2, 1) := by decide +kernel
theorem dX1_typeNumber_10 : decode mi_X1_typeNumber.2.1 10 = .ok (.aload_n 0, 1) := by decide +kernel
theorem dX1_typeNumber_11 : decode mi_X1_typeNumber.2.1 11 = .ok (.invokevirtual 111, 3) := by decide +kernel
theorem dX1_typeNumber_14 : decode mi_X1_typeNumber.2.1 14 = .ok (.tableswitch 55 1 4 #[30, 37, 44, 49], 30) := by decide +kernel
theorem dX1_typeNumber_44 : decode mi_X1_typeNumber.2.1 44 = .ok (.aload_n 0, 1) := by decide +kernel
theorem dX1_typeNumber_45 : decode mi_X1_typeNumber.2.1 45 = .ok (.iload_n 1, 1) := by decide +kernel
theorem dX1_typeNumber_46 : decode mi_X1_typeNumber.2.1 46 = .ok (.iload_n 2, 1) := by decide +kernel
theorem dX1_typeNumber_47 : decode mi_X1_typeNumber.2.1 47 = .ok (.invokevirtual 114, 3) := by decide +kernel
theorem dX1_typeNumber_50 : decode mi_X1_typeNumber.2.1 50 = .ok (.ireturn, 1) := by decide +kernel
theorem dX1_typeNumber_51 : decode mi_X1_typeNumber.2.1 51 = .ok (.aload_n 0, 1) := by decide +kernel
theorem dX1_typeNumber_52 : decode mi_X1_typeNumber.2.1 52 = .ok (.iload_n 1, 1) := by decide +kernel
theorem dX1_typeNumber_53 : decode mi_X1_typeNumber.2.1 53 = .ok (.iload_n 2, 1) := by decide +kernel
theorem dX1_typeNumber_54 : decode mi_X1_typeNumber.2.1 54 = .ok (.invokevirtual 118, 3) := by decide +kernel
theorem dX1_typeNumber_57 : decode mi_X1_typeNumber.2.1 57 = .ok (.ireturn, 1) := by decide +kernel
theorem dX1_typeNumber_58 : decode mi_X1_typeNumber.2.1 58 = .ok (.aload_n 0, 1) := by decide +kernel
theorem dX1_typeNumber_59 : decode mi_X1_typeNumber.2.1 59 = .ok (.invokevirtual 121, 3) := by decide +kernel
theorem dX1_typeNumber_62 : decode mi_X1_typeNumber.2.1 62 = .ok (.ireturn, 1) := by decide +kernel
theorem dX1_typeNumber_63 : decode mi_X1_typeNumber.2.1 63 = .ok (.aload_n 0, 1) := by decide +kernel
theorem dX1_typeNumber_64 : decode mi_X1_typeNumber.2.1 64 = .ok (.iload_n 1, 1) := by decide +kernel
theorem dX1_typeNumber_65 : decode mi_X1_typeNumber.2.1 65 = .ok (.invokevirtual 124, 3) := by decide +kernel
theorem dX1_typeNumber_68 : decode mi_X1_typeNumber.2.1 68 = .ok (.ireturn, 1) := by decide +kernel
theorem dX1_typeNumber_69 : decode mi_X1_typeNumber.2.1 69 = .ok (.aload_n 0, 1) := by decide +kernel
theorem dX1_typeNumber_70 : decode mi_X1_typeNumber.2.1 70 = .ok (.invokevirtual 127, 3) := by decide +kernel
theorem dX1_typeNumber_73 : decode mi_X1_typeNumber.2.1 73 = .ok (.ifCond .eq 8, 3) := by decide +kernel
theorem dX1_typeNumber_76 : decode mi_X1_typeNumber.2.1 76 = .ok (.bipush 16, 2) := by decide +kernel
theorem dX1_typeNumber_78 : decode mi_X1_typeNumber.2.1 78 = .ok (.goto 5, 3) := by decide +kernel
theorem dX1_typeNumber_81 : decode mi_X1_typeNumber.2.1 81 = .ok (.bipush 15, 2) := by decide +kernel
theorem dX1_typeNumber_83 : decode mi_X1_typeNumber.2.1 83 = .ok (.ireturn, 1) := by decide +kernel
theorem dX1_typeWithoutTurns_0 : decode mi_X1_typeWithoutTurns.2.1 0 = .ok (.aload_n 0, 1) := by decide +kernel
theorem dX1_typeWithoutTurns_1 : decode mi_X1_typeWithoutTurns.2.1 1 = .ok (.invokevirtual 127, 3) := by decide +kernel
theorem dX1_typeWithoutTurns_4 : decode mi_X1_typeWithoutTurns.2.1 4 = .ok (.ifCond .ne 5, 3) := by decide +kernel
theorem dX1_typeWithoutTurns_7 : decode mi_X1_typeWithoutTurns.2.1 7 = .ok (.iconst 0, 1) := by decide +kernel
theorem dX1_typeWithoutTurns_8 : decode mi_X1_typeWithoutTurns.2.1 8 = .ok (.ireturn, 1) := by decide +kernel
theorem dX1_typeWithoutTurns_9 : decode mi_X1_typeWithoutTurns.2.1 9 = .ok (.iload_n 1, 1) := by decide +kernel
theorem dX1_typeWithoutTurns_10 : decode mi_X1_typeWithoutTurns.2.1 10 = .ok (.ifCond .ne 5, 3) := by decide +kernel
theorem dX1_typeWithoutTurns_13 : decode mi_X1_typeWithoutTurns.2.1 13 = .ok (.iconst 1, 1) := by decide +kernel
theorem dX1_typeWithoutTurns_14 : decode mi_X1_typeWithoutTurns.2.1 14 = .ok (.ireturn, 1) := by decide +kernel
theorem dX1_typeWithoutTurns_15 : decode mi_X1_typeWithoutTurns.2.1 15 = .ok (.iload_n 2, 1) := by decide +kernel
theorem dX1_typeWithoutTurns_16 : decode mi_X1_typeWithoutTurns.2.1 16 = .ok (.ifCond .eq 7, 3) := by decide +kernel
theorem dX1_typeWithoutTurns_19 : decode mi_X1_typeWithoutTurns.2.1 19 = .ok (.iconst 2, 1) := by decide +kernel
theorem dX1_typeWithoutTurns_20 : decode mi_X1_typeWithoutTurns.2.1 20 = .ok (.goto 4, 3) := by decide +kernel
theorem dX1_typeWithoutTurns_23 : decode mi_X1_typeWithoutTurns.2.1 23 = .ok (.iconst 3, 1) := by decide +kernel
theorem dX1_typeWithoutTurns_24 : decode mi_X1_typeWithoutTurns.2.1 24 = .ok (.ireturn, 1) := by decide +kernel
theorem dX1_typeWithHalfTurns_0 : decode mi_X1_typeWithHalfTurns.2.1 0 = .ok (.aload_n 0, 1) := by decide +kernel
theorem dX1_typeWithHalfTurns_1 : decode mi_X1_typeWithHalfTurns.2.1 1 = .ok (.invokevirtual 127, 3) := by decide +kernel
theorem dX1_typeWithHalfTurns_4 : decode mi_X1_typeWithHalfTurns.2.1 4 = .ok (.ifCond .ne 5, 3) := by decide +kernel
theorem dX1_typeWithHalfTurns_7 : decode mi_X1_typeWithHalfTurns.2.1 7 = .ok (.iconst 4, 1) := by decide +kernel
theorem dX1_typeWithHalfTurns_8 : decode mi_X1_typeWithHalfTurns.2.1 8 = .ok (.ireturn, 1) := by decide +kernel
theorem dX1_typeWithHalfTurns_9 : decode mi_X1_typeWithHalfTurns.2.1 9 = .ok (.iload_n 1, 1) := by decide +kernel
theorem dX1_typeWithHalfTurns_10 : decode mi_X1_typeWithHalfTurns.2.1 10 = .ok (.ifCond .ne 5, 3) := by decide +kernel
theorem dX1_typeWithHalfTurns_13 : decode mi_X1_typeWithHalfTurns.2.1 13 = .ok (.iconst 5, 1) := by decide +kernel
theorem dX1_typeWithHalfTurns_14 : decode mi_X1_typeWithHalfTurns.2.1 14 = .ok (.ireturn, 1) := by decide +kernel
theorem dX1_typeWithHalfTurns_15 : decode mi_X1_typeWithHalfTurns.2.1 15 = .ok (.iload_n 1, 1) := by decide +kernel
theorem dX1_typeWithHalfTurns_16 : decode mi_X1_typeWithHalfTurns.2.1 16 = .ok (.iconst 1, 1) := by decide +kernel
theorem dX1_typeWithHalfTurns_17 : decode mi_X1_typeWithHalfTurns.2.1 17 = .ok (.if_icmp .ne 6, 3) := by decide +kernel
theorem dX1_typeWithHalfTurns_20 : decode mi_X1_typeWithHalfTurns.2.1 20 = .ok (.bipush 6, 2) := by decide +kernel
theorem dX1_typeWithHalfTurns_22 : decode mi_X1_typeWithHalfTurns.2.1 22 = .ok (.ireturn, 1) := by decide +kernel
theorem dX1_typeWithHalfTurns_23 : decode mi_X1_typeWithHalfTurns.2.1 23 = .ok (.iload_n 2, 1) := by decide +kernel
theorem dX1_typeWithHalfTurns_24 : decode mi_X1_typeWithHalfTurns.2.1 24 = .ok (.ifCond .eq 8, 3) := by decide +kernel
theorem dX1_typeWithHalfTurns_27 : decode mi_X1_typeWithHalfTurns.2.1 27 = .ok (.bipush 7, 2) := by decide +kernel
theorem dX1_typeWithHalfTurns_29 : decode mi_X1_typeWithHalfTurns.2.1 29 = .ok (.goto 5, 3) := by decide +kernel
theorem dX1_typeWithHalfTurns_32 : decode mi_X1_typeWithHalfTurns.2.1 32 = .ok (.bipush 8, 2) := by decide +kernel
theorem dX1_typeWithHalfTurns_34 : decode mi_X1_typeWithHalfTurns.2.1 34 = .ok (.ireturn, 1) := by decide +kernel
theorem dX1_typeWithThirdTurns_0 : decode mi_X1_typeWithThirdTurns.2.1 0 = .ok (.aload_n 0, 1) := by decide +kernel
theorem dX1_typeWithThirdTurns_1 : decode mi_X1_typeWithThirdTurns.2.1 1 = .ok (.invokevirtual 127, 3) := by decide +kernel
theorem dX1_typeWithThirdTurns_4 : decode mi_X1_typeWithThirdTurns.2.1 4 = .ok (.ifCond .ne 6, 3) := by decide +kernel
theorem dX1_typeWithThirdTurns_7 : decode mi_X1_typeWithThirdTurns.2.1 7 = .ok (.bipush 9, 2) := by decide +kernel
theorem dX1_typeWithThirdTurns_9 : decode mi_X1_typeWithThirdTurns.2.1 9 = .ok (.ireturn, 1) := by decide +kernel
theorem dX1_typeWithThirdTurns_10 : decode mi_X1_typeWithThirdTurns.2.1 10 = .ok (.aload_n 0, 1) := by decide +kernel
theorem dX1_typeWithThirdTurns_11 : decode mi_X1_typeWithThirdTurns.2.1 11 = .ok (.invokevirtual 130, 3) := by decide +kernel
theorem dX1_typeWithThirdTurns_14 : decode mi_X1_typeWithThirdTurns.2.1 14 = .ok (.ifCond .eq 8, 3) := by decide +kernel
theorem dX1_typeWithThirdTurns_17 : decode mi_X1_typeWithThirdTurns.2.1 17 = .ok (.bipush 10, 2) := by decide +kernel
theorem dX1_typeWithThirdTurns_19 : decode mi_X1_typeWithThirdTurns.2.1 19 = .ok (.goto 5, 3) := by decide +kernel
theorem dX1_typeWithThirdTurns_22 : decode mi_X1_typeWithThirdTurns.2.1 22 = .ok (.bipush 11, 2) := by decide +kernel
theorem dX1_typeWithThirdTurns_24 : decode mi_X1_typeWithThirdTurns.2.1 24 = .ok (.ireturn, 1) := by decide +kernel
theorem dX1_typeWithQuarterTurns_0 : decode mi_X1_typeWithQuarterTurns.2.1 0 = .ok (.aload_n 0, 1) := by decide +kernel
theorem dX1_typeWithQuarterTurns_1 : decode mi_X1_typeWithQuarterTurns.2.1 1 = .ok (.invokevirtual 127, 3) := by decide +kernel
theorem dX1_typeWithQuarterTurns_4 : decode mi_X1_typeWithQuarterTurns.2.1 4 = .ok (.ifCond .ne 6, 3) := by decide +kernel
theorem dX1_typeWithQuarterTurns_7 : decode mi_X1_typeWithQuarterTurns.2.1 7 = .ok (.bipush 12, 2) := by decide +kernel
theorem dX1_typeWithQuarterTurns_9 : decode mi_X1_typeWithQuarterTurns.2.1 9 = .ok (.ireturn, 1) := by decide +kernel
theorem dX1_typeWithQuarterTurns_10 : decode mi_X1_typeWithQuarterTurns.2.1 10 = .ok (.iload_n 1, 1) := by decide +kernel
theorem dX1_typeWithQuarterTurns_11 : decode mi_X1_typeWithQuarterTurns.2.1 11 = .ok (.iconst 4, 1) := by decide +kernel
theorem dX1_typeWithQuarterTurns_12 : decode mi_X1_typeWithQuarterTurns.2.1 12 = .ok (.if_icmp .ge 8, 3) := by decide +kernel
theorem dX1_typeWithQuarterTurns_15 : decode mi_X1_typeWithQuarterTurns.2.1 15 = .ok (.bipush 13, 2) := by decide +kernel
theorem dX1_typeWithQuarterTurns_17 : decode mi_X1_typeWithQuarterTurns.2.1 17 = .ok (.goto 5, 3) := by decide +kernel
theorem dX1_typeWithQuarterTurns_20 : decode mi_X1_typeWithQuarterTurns.2.1 20 = .ok (.bipush 14, 2) := by decide +kernel
theorem dX1_typeWithQuarterTurns_22 : decode mi_X1_typeWithQuarterTurns.2.1 22 = .ok (.ireturn, 1) := by decide +kernel
theorem dX1_fixesShortestVector_0 : decode mi_X1_fixesShortestVector.2.1 0 = .ok (.aload_n 0, 1) := by decide +kernel
