theorem dX6_isSymmorphic_5 : decode mi_X6_isSymmorphic.2.1 5 = .ok (.getfield 44, 3) := by decide +kernel
theorem dX6_isSymmorphic_8 : decode mi_X6_isSymmorphic.2.1 8 = .ok (.invokevirtual 147, 3) := by decide +kernel
theorem dX6_isSymmorphic_11 : decode mi_X6_isSymmorphic.2.1 11 = .ok (.invokevirtual 181, 3) := by decide +kernel
theorem dX6_isSymmorphic_14 : decode mi_X6_isSymmorphic.2.1 14 = .ok (.invokestatic 124, 3) := by decide +kernel
theorem dX6_isSymmorphic_17 : decode mi_X6_isSymmorphic.2.1 17 = .ok (.ireturn, 1) := by decide +kernel
theorem dX6_invariantColorings_0 : decode mi_X6_invariantColorings.2.1 0 = .ok (.iload_n 1, 1) := by decide +kernel
theorem dX6_invariantColorings_1 : decode mi_X6_invariantColorings.2.1 1 = .ok (.iconst 1, 1) := by decide +kernel
theorem dX6_invariantColorings_2 : decode mi_X6_invariantColorings.2.1 2 = .ok (.if_icmp .lt 8, 3) := by decide +kernel
theorem dX6_invariantColorings_5 : decode mi_X6_invariantColorings.2.1 5 = .ok (.iload_n 1, 1) := by decide +kernel
theorem dX6_invariantColorings_6 : decode mi_X6_invariantColorings.2.1 6 = .ok (.iconst 4, 1) := by decide +kernel
theorem dX6_invariantColorings_7 : decode mi_X6_invariantColorings.2.1 7 = .ok (.if_icmp .le 7, 3) := by decide +kernel
theorem dX6_invariantColorings_10 : decode mi_X6_invariantColorings.2.1 10 = .ok (.ldc2_w 184, 3) := by decide +kernel
theorem dX6_invariantColorings_13 : decode mi_X6_invariantColorings.2.1 13 = .ok (.lreturn, 1) := by decide +kernel
theorem dX6_invariantColorings_14 : decode mi_X6_invariantColorings.2.1 14 = .ok (.iload_n 1, 1) := by decide +kernel
theorem dX6_invariantColorings_15 : decode mi_X6_invariantColorings.2.1 15 = .ok (.aload_n 0, 1) := by decide +kernel
theorem dX6_invariantColorings_16 : decode mi_X6_invariantColorings.2.1 16 = .ok (.getfield 53, 3) := by decide +kernel
theorem dX6_invariantColorings_19 : decode mi_X6_invariantColorings.2.1 19 = .ok (.invokevirtual 178, 3) := by decide +kernel
theorem dX6_invariantColorings_22 : decode mi_X6_invariantColorings.2.1 22 = .ok (.invokestatic 186, 3) := by decide +kernel
theorem dX6_invariantColorings_25 : decode mi_X6_invariantColorings.2.1 25 = .ok (.lreturn, 1) := by decide +kernel
theorem dX6_coloringClasses_0 : decode mi_X6_coloringClasses.2.1 0 = .ok (.iload_n 1, 1) := by decide +kernel
theorem dX6_coloringClasses_1 : decode mi_X6_coloringClasses.2.1 1 = .ok (.iconst 1, 1) := by decide +kernel
theorem dX6_coloringClasses_2 : decode mi_X6_coloringClasses.2.1 2 = .ok (.if_icmp .lt 8, 3) := by decide +kernel
theorem dX6_coloringClasses_5 : decode mi_X6_coloringClasses.2.1 5 = .ok (.iload_n 1, 1) := by decide +kernel
theorem dX6_coloringClasses_6 : decode mi_X6_coloringClasses.2.1 6 = .ok (.iconst 4, 1) := by decide +kernel
theorem dX6_coloringClasses_7 : decode mi_X6_coloringClasses.2.1 7 = .ok (.if_icmp .le 7, 3) := by decide +kernel
theorem dX6_coloringClasses_10 : decode mi_X6_coloringClasses.2.1 10 = .ok (.ldc2_w 184, 3) := by decide +kernel
theorem dX6_coloringClasses_13 : decode mi_X6_coloringClasses.2.1 13 = .ok (.lreturn, 1) := by decide +kernel
theorem dX6_coloringClasses_14 : decode mi_X6_coloringClasses.2.1 14 = .ok (.aload_n 0, 1) := by decide +kernel
theorem dX6_coloringClasses_15 : decode mi_X6_coloringClasses.2.1 15 = .ok (.getfield 53, 3) := by decide +kernel
theorem dX6_coloringClasses_18 : decode mi_X6_coloringClasses.2.1 18 = .ok (.iload_n 1, 1) := by decide +kernel
theorem dX6_coloringClasses_19 : decode mi_X6_coloringClasses.2.1 19 = .ok (.invokevirtual 190, 3) := by decide +kernel
theorem dX6_coloringClasses_22 : decode mi_X6_coloringClasses.2.1 22 = .ok (.lreturn, 1) := by decide +kernel
theorem dX6_refresh_0 : decode mi_X6_refresh.2.1 0 = .ok (.aload_n 0, 1) := by decide +kernel
theorem dX6_refresh_1 : decode mi_X6_refresh.2.1 1 = .ok (.getfield 35, 3) := by decide +kernel
theorem dX6_refresh_4 : decode mi_X6_refresh.2.1 4 = .ok (.invokevirtual 194, 3) := by decide +kernel
theorem dX6_refresh_7 : decode mi_X6_refresh.2.1 7 = .ok (.aload_n 0, 1) := by decide +kernel
theorem dX6_refresh_8 : decode mi_X6_refresh.2.1 8 = .ok (.getfield 44, 3) := by decide +kernel
theorem dX6_refresh_11 : decode mi_X6_refresh.2.1 11 = .ok (.invokevirtual 197, 3) := by decide +kernel
theorem dX6_refresh_14 : decode mi_X6_refresh.2.1 14 = .ok (.aload_n 0, 1) := by decide +kernel
theorem dX6_refresh_15 : decode mi_X6_refresh.2.1 15 = .ok (.getfield 53, 3) := by decide +kernel
theorem dX6_refresh_18 : decode mi_X6_refresh.2.1 18 = .ok (.invokevirtual 200, 3) := by decide +kernel
theorem dX6_refresh_21 : decode mi_X6_refresh.2.1 21 = .ok (.return_, 1) := by decide +kernel
theorem dX6_oneIf_0 : decode mi_X6_oneIf.2.1 0 = .ok (.iload_n 0, 1) := by decide +kernel
theorem dX6_oneIf_1 : decode mi_X6_oneIf.2.1 1 = .ok (.ifCond .eq 7, 3) := by decide +kernel
theorem dX6_oneIf_4 : decode mi_X6_oneIf.2.1 4 = .ok (.iconst 1, 1) := by decide +kernel
theorem dX6_oneIf_5 : decode mi_X6_oneIf.2.1 5 = .ok (.goto 4, 3) := by decide +kernel
theorem dX6_oneIf_8 : decode mi_X6_oneIf.2.1 8 = .ok (.iconst 0, 1) := by decide +kernel
theorem dX6_oneIf_9 : decode mi_X6_oneIf.2.1 9 = .ok (.ireturn, 1) := by decide +kernel
theorem dX6_quotient_0 : decode mi_X6_quotient.2.1 0 = .ok (.iload_n 1, 1) := by decide +kernel
theorem dX6_quotient_1 : decode mi_X6_quotient.2.1 1 = .ok (.ifCond .le 9, 3) := by decide +kernel
theorem dX6_quotient_4 : decode mi_X6_quotient.2.1 4 = .ok (.iload_n 0, 1) := by decide +kernel
theorem dX6_quotient_5 : decode mi_X6_quotient.2.1 5 = .ok (.iload_n 1, 1) := by decide +kernel
theorem dX6_quotient_6 : decode mi_X6_quotient.2.1 6 = .ok (.idiv, 1) := by decide +kernel
theorem dX6_quotient_7 : decode mi_X6_quotient.2.1 7 = .ok (.goto 4, 3) := by decide +kernel
theorem dX6_quotient_10 : decode mi_X6_quotient.2.1 10 = .ok (.iconst 0, 1) := by decide +kernel
theorem dX6_quotient_11 : decode mi_X6_quotient.2.1 11 = .ok (.ireturn, 1) := by decide +kernel
theorem dX6_remainder_0 : decode mi_X6_remainder.2.1 0 = .ok (.iload_n 1, 1) := by decide +kernel
theorem dX6_remainder_1 : decode mi_X6_remainder.2.1 1 = .ok (.ifCond .le 9, 3) := by decide +kernel
theorem dX6_remainder_4 : decode mi_X6_remainder.2.1 4 = .ok (.iload_n 0, 1) := by decide +kernel
theorem dX6_remainder_5 : decode mi_X6_remainder.2.1 5 = .ok (.iload_n 1, 1) := by decide +kernel
theorem dX6_remainder_6 : decode mi_X6_remainder.2.1 6 = .ok (.irem, 1) := by decide +kernel
theorem dX6_remainder_7 : decode mi_X6_remainder.2.1 7 = .ok (.goto 4, 3) := by decide +kernel
theorem dX6_remainder_10 : decode mi_X6_remainder.2.1 10 = .ok (.iconst 0, 1) := by decide +kernel
theorem dX6_remainder_11 : decode mi_X6_remainder.2.1 11 = .ok (.istore_n 2, 1) := by decide +kernel
theorem dX6_remainder_12 : decode mi_X6_remainder.2.1 12 = .ok (.iload_n 2, 1) := by decide +kernel
theorem dX6_remainder_13 : decode mi_X6_remainder.2.1 13 = .ok (.ifCond .ge 9, 3) := by decide +kernel
theorem dX6_remainder_16 : decode mi_X6_remainder.2.1 16 = .ok (.iload_n 2, 1) := by decide +kernel
theorem dX6_remainder_17 : decode mi_X6_remainder.2.1 17 = .ok (.iload_n 1, 1) := by decide +kernel
theorem dX6_remainder_18 : decode mi_X6_remainder.2.1 18 = .ok (.iadd, 1) := by decide +kernel
theorem dX6_remainder_19 : decode mi_X6_remainder.2.1 19 = .ok (.goto 4, 3) := by decide +kernel
theorem dX6_remainder_22 : decode mi_X6_remainder.2.1 22 = .ok (.iload_n 2, 1) := by decide +kernel
theorem dX6_remainder_23 : decode mi_X6_remainder.2.1 23 = .ok (.ireturn, 1) := by decide +kernel
theorem dX6_isInside_0 : decode mi_X6_isInside.2.1 0 = .ok (.iload_n 0, 1) := by decide +kernel
theorem dX6_isInside_1 : decode mi_X6_isInside.2.1 1 = .ok (.ifCond .lt 12, 3) := by decide +kernel
theorem dX6_isInside_4 : decode mi_X6_isInside.2.1 4 = .ok (.iload_n 0, 1) := by decide +kernel
theorem dX6_isInside_5 : decode mi_X6_isInside.2.1 5 = .ok (.iload_n 1, 1) := by decide +kernel
theorem dX6_isInside_6 : decode mi_X6_isInside.2.1 6 = .ok (.if_icmp .ge 7, 3) := by decide +kernel
theorem dX6_isInside_9 : decode mi_X6_isInside.2.1 9 = .ok (.iconst 1, 1) := by decide +kernel
theorem dX6_isInside_10 : decode mi_X6_isInside.2.1 10 = .ok (.goto 4, 3) := by decide +kernel
theorem dX6_isInside_13 : decode mi_X6_isInside.2.1 13 = .ok (.iconst 0, 1) := by decide +kernel
theorem dX6_isInside_14 : decode mi_X6_isInside.2.1 14 = .ok (.ireturn, 1) := by decide +kernel
theorem dX6_clearMarks_0 : decode mi_X6_clearMarks.2.1 0 = .ok (.iconst 0, 1) := by decide +kernel
theorem dX6_clearMarks_1 : decode mi_X6_clearMarks.2.1 1 = .ok (.istore_n 1, 1) := by decide +kernel
theorem dX6_clearMarks_2 : decode mi_X6_clearMarks.2.1 2 = .ok (.iload_n 1, 1) := by decide +kernel
theorem dX6_clearMarks_3 : decode mi_X6_clearMarks.2.1 3 = .ok (.aload_n 0, 1) := by decide +kernel
theorem dX6_clearMarks_4 : decode mi_X6_clearMarks.2.1 4 = .ok (.arraylength, 1) := by decide +kernel
theorem dX6_clearMarks_5 : decode mi_X6_clearMarks.2.1 5 = .ok (.if_icmp .ge 13, 3) := by decide +kernel
theorem dX6_clearMarks_8 : decode mi_X6_clearMarks.2.1 8 = .ok (.aload_n 0, 1) := by decide +kernel
theorem dX6_clearMarks_9 : decode mi_X6_clearMarks.2.1 9 = .ok (.iload_n 1, 1) := by decide +kernel
theorem dX6_clearMarks_10 : decode mi_X6_clearMarks.2.1 10 = .ok (.iconst 0, 1) := by decide +kernel
theorem dX6_clearMarks_11 : decode mi_X6_clearMarks.2.1 11 = .ok (.bastore, 1) := by decide +kernel
theorem dX6_clearMarks_12 : decode mi_X6_clearMarks.2.1 12 = .ok (.iinc 1 1, 3) := by decide +kernel
theorem dX6_clearMarks_15 : decode mi_X6_clearMarks.2.1 15 = .ok (.goto (-13), 3) := by decide +kernel
theorem dX6_clearMarks_18 : decode mi_X6_clearMarks.2.1 18 = .ok (.return_, 1) := by decide +kernel
theorem dX6_countMarks_0 : decode mi_X6_countMarks.2.1 0 = .ok (.iconst 0, 1) := by decide +kernel
theorem dX6_countMarks_1 : decode mi_X6_countMarks.2.1 1 = .ok (.istore_n 1, 1) := by decide +kernel
theorem dX6_countMarks_2 : decode mi_X6_countMarks.2.1 2 = .ok (.iconst 0, 1) := by decide +kernel
theorem dX6_countMarks_3 : decode mi_X6_countMarks.2.1 3 = .ok (.istore_n 2, 1) := by decide +kernel
theorem dX6_countMarks_4 : decode mi_X6_countMarks.2.1 4 = .ok (.iload_n 2, 1) := by decide +kernel
theorem dX6_countMarks_5 : decode mi_X6_countMarks.2.1 5 = .ok (.aload_n 0, 1) := by decide +kernel
theorem dX6_countMarks_6 : decode mi_X6_countMarks.2.1 6 = .ok (.arraylength, 1) := by decide +kernel
theorem dX6_countMarks_7 : decode mi_X6_countMarks.2.1 7 = .ok (.if_icmp .ge 18, 3) := by decide +kernel
theorem dX6_countMarks_10 : decode mi_X6_countMarks.2.1 10 = .ok (.aload_n 0, 1) := by decide +kernel
theorem dX6_countMarks_11 : decode mi_X6_countMarks.2.1 11 = .ok (.iload_n 2, 1) := by decide +kernel
theorem dX6_countMarks_12 : decode mi_X6_countMarks.2.1 12 = .ok (.baload, 1) := by decide +kernel
theorem dX6_countMarks_13 : decode mi_X6_countMarks.2.1 13 = .ok (.ifCond .eq 6, 3) := by decide +kernel
theorem dX6_countMarks_16 : decode mi_X6_countMarks.2.1 16 = .ok (.iinc 1 1, 3) := by decide +kernel
theorem dX6_countMarks_19 : decode mi_X6_countMarks.2.1 19 = .ok (.iinc 2 1, 3) := by decide +kernel
theorem dX6_countMarks_22 : decode mi_X6_countMarks.2.1 22 = .ok (.goto (-18), 3) := by decide +kernel
theorem dX6_countMarks_25 : decode mi_X6_countMarks.2.1 25 = .ok (.iload_n 1, 1) := by decide +kernel
theorem dX6_countMarks_26 : decode mi_X6_countMarks.2.1 26 = .ok (.ireturn, 1) := by decide +kernel
theorem dX6_power_0 : decode mi_X6_power.2.1 0 = .ok (.lconst 1, 1) := by decide +kernel
theorem dX6_power_1 : decode mi_X6_power.2.1 1 = .ok (.lstore_n 2, 1) := by decide +kernel
theorem dX6_power_2 : decode mi_X6_power.2.1 2 = .ok (.iconst 0, 1) := by decide +kernel
theorem dX6_power_3 : decode mi_X6_power.2.1 3 = .ok (.istore 4, 2) := by decide +kernel
theorem dX6_power_5 : decode mi_X6_power.2.1 5 = .ok (.iload 4, 2) := by decide +kernel
theorem dX6_power_7 : decode mi_X6_power.2.1 7 = .ok (.iload_n 1, 1) := by decide +kernel
theorem dX6_power_8 : decode mi_X6_power.2.1 8 = .ok (.if_icmp .ge 14, 3) := by decide +kernel
theorem dX6_power_11 : decode mi_X6_power.2.1 11 = .ok (.lload_n 2, 1) := by decide +kernel
theorem dX6_power_12 : decode mi_X6_power.2.1 12 = .ok (.iload_n 0, 1) := by decide +kernel
theorem dX6_power_13 : decode mi_X6_power.2.1 13 = .ok (.i2l, 1) := by decide +kernel
theorem dX6_power_14 : decode mi_X6_power.2.1 14 = .ok (.lmul, 1) := by decide +kernel
theorem dX6_power_15 : decode mi_X6_power.2.1 15 = .ok (.lstore_n 2, 1) := by decide +kernel
theorem dX6_power_16 : decode mi_X6_power.2.1 16 = .ok (.iinc 4 1, 3) := by decide +kernel
theorem dX6_power_19 : decode mi_X6_power.2.1 19 = .ok (.goto (-14), 3) := by decide +kernel
theorem dX6_power_22 : decode mi_X6_power.2.1 22 = .ok (.lload_n 2, 1) := by decide +kernel
theorem dX6_power_23 : decode mi_X6_power.2.1 23 = .ok (.lreturn, 1) := by decide +kernel
theorem dX7_in_0 : decode mi_X7_in.2.1 0 = .ok (.iload_n 0, 1) := by decide +kernel
theorem dX7_in_1 : decode mi_X7_in.2.1 1 = .ok (.iload_n 1, 1) := by decide +kernel
theorem dX7_in_2 : decode mi_X7_in.2.1 2 = .ok (.if_icmp .lt 12, 3) := by decide +kernel
theorem dX7_in_5 : decode mi_X7_in.2.1 5 = .ok (.iload_n 0, 1) := by decide +kernel
theorem dX7_in_6 : decode mi_X7_in.2.1 6 = .ok (.iload_n 2, 1) := by decide +kernel
theorem dX7_in_7 : decode mi_X7_in.2.1 7 = .ok (.if_icmp .gt 7, 3) := by decide +kernel
theorem dX7_in_10 : decode mi_X7_in.2.1 10 = .ok (.iconst 1, 1) := by decide +kernel
theorem dX7_in_11 : decode mi_X7_in.2.1 11 = .ok (.goto 4, 3) := by decide +kernel
theorem dX7_in_14 : decode mi_X7_in.2.1 14 = .ok (.iconst 0, 1) := by decide +kernel
theorem dX7_in_15 : decode mi_X7_in.2.1 15 = .ok (.ireturn, 1) := by decide +kernel
theorem dX7_entry_0 : decode mi_X7_entry.2.1 0 = .ok (.aload_n 0, 1) := by decide +kernel
theorem dX7_entry_1 : decode mi_X7_entry.2.1 1 = .ok (.getfield 16, 3) := by decide +kernel
theorem dX7_entry_4 : decode mi_X7_entry.2.1 4 = .ok (.iconst 4, 1) := by decide +kernel
theorem dX7_entry_5 : decode mi_X7_entry.2.1 5 = .ok (.iload_n 1, 1) := by decide +kernel
theorem dX7_entry_6 : decode mi_X7_entry.2.1 6 = .ok (.imul, 1) := by decide +kernel
theorem dX7_entry_7 : decode mi_X7_entry.2.1 7 = .ok (.iload_n 2, 1) := by decide +kernel
theorem dX7_entry_8 : decode mi_X7_entry.2.1 8 = .ok (.iadd, 1) := by decide +kernel
theorem dX7_entry_9 : decode mi_X7_entry.2.1 9 = .ok (.iaload, 1) := by decide +kernel
theorem dX7_entry_10 : decode mi_X7_entry.2.1 10 = .ok (.ireturn, 1) := by decide +kernel
theorem dX7_putProduct_0 : decode mi_X7_putProduct.2.1 0 = .ok (.iconst 0, 1) := by decide +kernel
theorem dX7_putProduct_1 : decode mi_X7_putProduct.2.1 1 = .ok (.istore 4, 2) := by decide +kernel
theorem dX7_putProduct_3 : decode mi_X7_putProduct.2.1 3 = .ok (.iload 4, 2) := by decide +kernel
theorem dX7_putProduct_5 : decode mi_X7_putProduct.2.1 5 = .ok (.iconst 2, 1) := by decide +kernel
theorem dX7_putProduct_6 : decode mi_X7_putProduct.2.1 6 = .ok (.if_icmp .ge 79, 3) := by decide +kernel
theorem dX7_putProduct_9 : decode mi_X7_putProduct.2.1 9 = .ok (.iconst 0, 1) := by decide +kernel
theorem dX7_putProduct_10 : decode mi_X7_putProduct.2.1 10 = .ok (.istore 5, 2) := by decide +kernel
theorem dX7_putProduct_12 : decode mi_X7_putProduct.2.1 12 = .ok (.iload 5, 2) := by decide +kernel
theorem dX7_putProduct_14 : decode mi_X7_putProduct.2.1 14 = .ok (.iconst 2, 1) := by decide +kernel
theorem dX7_putProduct_15 : decode mi_X7_putProduct.2.1 15 = .ok (.if_icmp .ge 64, 3) := by decide +kernel
theorem dX7_putProduct_18 : decode mi_X7_putProduct.2.1 18 = .ok (.aload_n 0, 1) := by decide +kernel
theorem dX7_putProduct_19 : decode mi_X7_putProduct.2.1 19 = .ok (.getfield 16, 3) := by decide +kernel
theorem dX7_putProduct_22 : decode mi_X7_putProduct.2.1 22 = .ok (.iconst 4, 1) := by decide +kernel
theorem dX7_putProduct_23 : decode mi_X7_putProduct.2.1 23 = .ok (.iload_n 3, 1) := by decide +kernel
theorem dX7_putProduct_24 : decode mi_X7_putProduct.2.1 24 = .ok (.imul, 1) := by decide +kernel
theorem dX7_putProduct_25 : decode mi_X7_putProduct.2.1 25 = .ok (.iconst 2, 1) := by decide +kernel
theorem dX7_putProduct_26 : decode mi_X7_putProduct.2.1 26 = .ok (.iload 4, 2) := by decide +kernel
theorem dX7_putProduct_28 : decode mi_X7_putProduct.2.1 28 = .ok (.imul, 1) := by decide +kernel
theorem dX7_putProduct_29 : decode mi_X7_putProduct.2.1 29 = .ok (.iadd, 1) := by decide +kernel
theorem dX7_putProduct_30 : decode mi_X7_putProduct.2.1 30 = .ok (.iload 5, 2) := by decide +kernel
theorem dX7_putProduct_32 : decode mi_X7_putProduct.2.1 32 = .ok (.iadd, 1) := by decide +kernel
theorem dX7_putProduct_33 : decode mi_X7_putProduct.2.1 33 = .ok (.aload_n 0, 1) := by decide +kernel
theorem dX7_putProduct_34 : decode mi_X7_putProduct.2.1 34 = .ok (.iload_n 1, 1) := by decide +kernel
theorem dX7_putProduct_35 : decode mi_X7_putProduct.2.1 35 = .ok (.iconst 2, 1) := by decide +kernel
theorem dX7_putProduct_36 : decode mi_X7_putProduct.2.1 36 = .ok (.iload 4, 2) := by decide +kernel
theorem dX7_putProduct_38 : decode mi_X7_putProduct.2.1 38 = .ok (.imul, 1) := by decide +kernel
theorem dX7_putProduct_39 : decode mi_X7_putProduct.2.1 39 = .ok (.invokevirtual 32, 3) := by decide +kernel
theorem dX7_putProduct_42 : decode mi_X7_putProduct.2.1 42 = .ok (.aload_n 0, 1) := by decide +kernel
theorem dX7_putProduct_43 : decode mi_X7_putProduct.2.1 43 = .ok (.iload_n 2, 1) := by decide +kernel
theorem dX7_putProduct_44 : decode mi_X7_putProduct.2.1 44 = .ok (.iload 5, 2) := by decide +kernel
theorem dX7_putProduct_46 : decode mi_X7_putProduct.2.1 46 = .ok (.invokevirtual 32, 3) := by decide +kernel
theorem dX7_putProduct_49 : decode mi_X7_putProduct.2.1 49 = .ok (.imul, 1) := by decide +kernel
theorem dX7_putProduct_50 : decode mi_X7_putProduct.2.1 50 = .ok (.aload_n 0, 1) := by decide +kernel
theorem dX7_putProduct_51 : decode mi_X7_putProduct.2.1 51 = .ok (.iload_n 1, 1) := by decide +kernel
theorem dX7_putProduct_52 : decode mi_X7_putProduct.2.1 52 = .ok (.iconst 2, 1) := by decide +kernel
theorem dX7_putProduct_53 : decode mi_X7_putProduct.2.1 53 = .ok (.iload 4, 2) := by decide +kernel
theorem dX7_putProduct_55 : decode mi_X7_putProduct.2.1 55 = .ok (.imul, 1) := by decide +kernel
theorem dX7_putProduct_56 : decode mi_X7_putProduct.2.1 56 = .ok (.iconst 1, 1) := by decide +kernel
theorem dX7_putProduct_57 : decode mi_X7_putProduct.2.1 57 = .ok (.iadd, 1) := by decide +kernel
theorem dX7_putProduct_58 : decode mi_X7_putProduct.2.1 58 = .ok (.invokevirtual 32, 3) := by decide +kernel
theorem dX7_putProduct_61 : decode mi_X7_putProduct.2.1 61 = .ok (.aload_n 0, 1) := by decide +kernel
theorem dX7_putProduct_62 : decode mi_X7_putProduct.2.1 62 = .ok (.iload_n 2, 1) := by decide +kernel
theorem dX7_putProduct_63 : decode mi_X7_putProduct.2.1 63 = .ok (.iconst 2, 1) := by decide +kernel
theorem dX7_putProduct_64 : decode mi_X7_putProduct.2.1 64 = .ok (.iload 5, 2) := by decide +kernel
theorem dX7_putProduct_66 : decode mi_X7_putProduct.2.1 66 = .ok (.iadd, 1) := by decide +kernel
theorem dX7_putProduct_67 : decode mi_X7_putProduct.2.1 67 = .ok (.invokevirtual 32, 3) := by decide +kernel
theorem dX7_putProduct_70 : decode mi_X7_putProduct.2.1 70 = .ok (.imul, 1) := by decide +kernel
theorem dX7_putProduct_71 : decode mi_X7_putProduct.2.1 71 = .ok (.iadd, 1) := by decide +kernel
theorem dX7_putProduct_72 : decode mi_X7_putProduct.2.1 72 = .ok (.iastore, 1) := by decide +kernel
theorem dX7_putProduct_73 : decode mi_X7_putProduct.2.1 73 = .ok (.iinc 5 1, 3) := by decide +kernel
theorem dX7_putProduct_76 : decode mi_X7_putProduct.2.1 76 = .ok (.goto (-64), 3) := by decide +kernel
theorem dX7_putProduct_79 : decode mi_X7_putProduct.2.1 79 = .ok (.iinc 4 1, 3) := by decide +kernel
theorem dX7_putProduct_82 : decode mi_X7_putProduct.2.1 82 = .ok (.goto (-79), 3) := by decide +kernel
theorem dX7_putProduct_85 : decode mi_X7_putProduct.2.1 85 = .ok (.return_, 1) := by decide +kernel
theorem dX7_putPart_0 : decode mi_X7_putPart.2.1 0 = .ok (.aload_n 0, 1) := by decide +kernel
theorem dX7_putPart_1 : decode mi_X7_putPart.2.1 1 = .ok (.getfield 16, 3) := by decide +kernel
theorem dX7_putPart_4 : decode mi_X7_putPart.2.1 4 = .ok (.iconst 4, 1) := by decide +kernel
theorem dX7_putPart_5 : decode mi_X7_putPart.2.1 5 = .ok (.iload_n 1, 1) := by decide +kernel
theorem dX7_putPart_6 : decode mi_X7_putPart.2.1 6 = .ok (.imul, 1) := by decide +kernel
theorem dX7_putPart_7 : decode mi_X7_putPart.2.1 7 = .ok (.iload_n 2, 1) := by decide +kernel
theorem dX7_putPart_8 : decode mi_X7_putPart.2.1 8 = .ok (.iastore, 1) := by decide +kernel
theorem dX7_putPart_9 : decode mi_X7_putPart.2.1 9 = .ok (.aload_n 0, 1) := by decide +kernel
theorem dX7_putPart_10 : decode mi_X7_putPart.2.1 10 = .ok (.getfield 16, 3) := by decide +kernel
theorem dX7_putPart_13 : decode mi_X7_putPart.2.1 13 = .ok (.iconst 4, 1) := by decide +kernel
theorem dX7_putPart_14 : decode mi_X7_putPart.2.1 14 = .ok (.iload_n 1, 1) := by decide +kernel
theorem dX7_putPart_15 : decode mi_X7_putPart.2.1 15 = .ok (.imul, 1) := by decide +kernel
theorem dX7_putPart_16 : decode mi_X7_putPart.2.1 16 = .ok (.iconst 1, 1) := by decide +kernel
theorem dX7_putPart_17 : decode mi_X7_putPart.2.1 17 = .ok (.iadd, 1) := by decide +kernel
theorem dX7_putPart_18 : decode mi_X7_putPart.2.1 18 = .ok (.iload_n 3, 1) := by decide +kernel
theorem dX7_putPart_19 : decode mi_X7_putPart.2.1 19 = .ok (.iastore, 1) := by decide +kernel
theorem dX7_putPart_20 : decode mi_X7_putPart.2.1 20 = .ok (.aload_n 0, 1) := by decide +kernel
theorem dX7_putPart_21 : decode mi_X7_putPart.2.1 21 = .ok (.getfield 16, 3) := by decide +kernel
theorem dX7_putPart_24 : decode mi_X7_putPart.2.1 24 = .ok (.iconst 4, 1) := by decide +kernel
theorem dX7_putPart_25 : decode mi_X7_putPart.2.1 25 = .ok (.iload_n 1, 1) := by decide +kernel
theorem dX7_putPart_26 : decode mi_X7_putPart.2.1 26 = .ok (.imul, 1) := by decide +kernel
theorem dX7_putPart_27 : decode mi_X7_putPart.2.1 27 = .ok (.iconst 2, 1) := by decide +kernel
theorem dX7_putPart_28 : decode mi_X7_putPart.2.1 28 = .ok (.iadd, 1) := by decide +kernel
theorem dX7_putPart_29 : decode mi_X7_putPart.2.1 29 = .ok (.iload 4, 2) := by decide +kernel
theorem dX7_putPart_31 : decode mi_X7_putPart.2.1 31 = .ok (.iastore, 1) := by decide +kernel
theorem dX7_putPart_32 : decode mi_X7_putPart.2.1 32 = .ok (.aload_n 0, 1) := by decide +kernel
theorem dX7_putPart_33 : decode mi_X7_putPart.2.1 33 = .ok (.getfield 16, 3) := by decide +kernel
theorem dX7_putPart_36 : decode mi_X7_putPart.2.1 36 = .ok (.iconst 4, 1) := by decide +kernel
theorem dX7_putPart_37 : decode mi_X7_putPart.2.1 37 = .ok (.iload_n 1, 1) := by decide +kernel
theorem dX7_putPart_38 : decode mi_X7_putPart.2.1 38 = .ok (.imul, 1) := by decide +kernel
theorem dX7_putPart_39 : decode mi_X7_putPart.2.1 39 = .ok (.iconst 3, 1) := by decide +kernel
theorem dX7_putPart_40 : decode mi_X7_putPart.2.1 40 = .ok (.iadd, 1) := by decide +kernel
theorem dX7_putPart_41 : decode mi_X7_putPart.2.1 41 = .ok (.iload 5, 2) := by decide +kernel
theorem dX7_putPart_43 : decode mi_X7_putPart.2.1 43 = .ok (.iastore, 1) := by decide +kernel
theorem dX7_putPart_44 : decode mi_X7_putPart.2.1 44 = .ok (.return_, 1) := by decide +kernel
theorem dX7_numberOfProduct_0 : decode mi_X7_numberOfProduct.2.1 0 = .ok (.bipush (-3), 2) := by decide +kernel
theorem dX7_numberOfProduct_2 : decode mi_X7_numberOfProduct.2.1 2 = .ok (.istore_n 3, 1) := by decide +kernel
theorem dX7_numberOfProduct_3 : decode mi_X7_numberOfProduct.2.1 3 = .ok (.iconst 0, 1) := by decide +kernel
theorem dX7_numberOfProduct_4 : decode mi_X7_numberOfProduct.2.1 4 = .ok (.istore 4, 2) := by decide +kernel
theorem dX7_numberOfProduct_6 : decode mi_X7_numberOfProduct.2.1 6 = .ok (.iload 4, 2) := by decide +kernel
theorem dX7_numberOfProduct_8 : decode mi_X7_numberOfProduct.2.1 8 = .ok (.aload_n 0, 1) := by decide +kernel
theorem dX7_numberOfProduct_9 : decode mi_X7_numberOfProduct.2.1 9 = .ok (.getfield 36, 3) := by decide +kernel
theorem dX7_numberOfProduct_12 : decode mi_X7_numberOfProduct.2.1 12 = .ok (.if_icmp .ge 121, 3) := by decide +kernel
theorem dX7_numberOfProduct_15 : decode mi_X7_numberOfProduct.2.1 15 = .ok (.iconst 1, 1) := by decide +kernel
theorem dX7_numberOfProduct_16 : decode mi_X7_numberOfProduct.2.1 16 = .ok (.istore 5, 2) := by decide +kernel
theorem dX7_numberOfProduct_18 : decode mi_X7_numberOfProduct.2.1 18 = .ok (.iconst 0, 1) := by decide +kernel
theorem dX7_numberOfProduct_19 : decode mi_X7_numberOfProduct.2.1 19 = .ok (.istore 6, 2) := by decide +kernel
theorem dX7_numberOfProduct_21 : decode mi_X7_numberOfProduct.2.1 21 = .ok (.iload 6, 2) := by decide +kernel
theorem dX7_numberOfProduct_23 : decode mi_X7_numberOfProduct.2.1 23 = .ok (.iconst 2, 1) := by decide +kernel
theorem dX7_numberOfProduct_24 : decode mi_X7_numberOfProduct.2.1 24 = .ok (.if_icmp .ge 91, 3) := by decide +kernel
theorem dX7_numberOfProduct_27 : decode mi_X7_numberOfProduct.2.1 27 = .ok (.iconst 0, 1) := by decide +kernel
theorem dX7_numberOfProduct_28 : decode mi_X7_numberOfProduct.2.1 28 = .ok (.istore 7, 2) := by decide +kernel
theorem dX7_numberOfProduct_30 : decode mi_X7_numberOfProduct.2.1 30 = .ok (.iload 7, 2) := by decide +kernel
theorem dX7_numberOfProduct_32 : decode mi_X7_numberOfProduct.2.1 32 = .ok (.iconst 2, 1) := by decide +kernel
theorem dX7_numberOfProduct_33 : decode mi_X7_numberOfProduct.2.1 33 = .ok (.if_icmp .ge 76, 3) := by decide +kernel
theorem dX7_numberOfProduct_36 : decode mi_X7_numberOfProduct.2.1 36 = .ok (.iload 5, 2) := by decide +kernel
theorem dX7_numberOfProduct_38 : decode mi_X7_numberOfProduct.2.1 38 = .ok (.ifCond .eq 62, 3) := by decide +kernel
theorem dX7_numberOfProduct_41 : decode mi_X7_numberOfProduct.2.1 41 = .ok (.aload_n 0, 1) := by decide +kernel
theorem dX7_numberOfProduct_42 : decode mi_X7_numberOfProduct.2.1 42 = .ok (.iload 4, 2) := by decide +kernel
theorem dX7_numberOfProduct_44 : decode mi_X7_numberOfProduct.2.1 44 = .ok (.iconst 2, 1) := by decide +kernel
theorem dX7_numberOfProduct_45 : decode mi_X7_numberOfProduct.2.1 45 = .ok (.iload 6, 2) := by decide +kernel
theorem dX7_numberOfProduct_47 : decode mi_X7_numberOfProduct.2.1 47 = .ok (.imul, 1) := by decide +kernel
theorem dX7_numberOfProduct_48 : decode mi_X7_numberOfProduct.2.1 48 = .ok (.iload 7, 2) := by decide +kernel
theorem dX7_numberOfProduct_50 : decode mi_X7_numberOfProduct.2.1 50 = .ok (.iadd, 1) := by decide +kernel
theorem dX7_numberOfProduct_51 : decode mi_X7_numberOfProduct.2.1 51 = .ok (.invokevirtual 32, 3) := by decide +kernel
theorem dX7_numberOfProduct_54 : decode mi_X7_numberOfProduct.2.1 54 = .ok (.aload_n 0, 1) := by decide +kernel
theorem dX7_numberOfProduct_55 : decode mi_X7_numberOfProduct.2.1 55 = .ok (.iload_n 1, 1) := by decide +kernel
theorem dX7_numberOfProduct_56 : decode mi_X7_numberOfProduct.2.1 56 = .ok (.iconst 2, 1) := by decide +kernel
theorem dX7_numberOfProduct_57 : decode mi_X7_numberOfProduct.2.1 57 = .ok (.iload 6, 2) := by decide +kernel
theorem dX7_numberOfProduct_59 : decode mi_X7_numberOfProduct.2.1 59 = .ok (.imul, 1) := by decide +kernel
theorem dX7_numberOfProduct_60 : decode mi_X7_numberOfProduct.2.1 60 = .ok (.invokevirtual 32, 3) := by decide +kernel
theorem dX7_numberOfProduct_63 : decode mi_X7_numberOfProduct.2.1 63 = .ok (.aload_n 0, 1) := by decide +kernel
theorem dX7_numberOfProduct_64 : decode mi_X7_numberOfProduct.2.1 64 = .ok (.iload_n 2, 1) := by decide +kernel
theorem dX7_numberOfProduct_65 : decode mi_X7_numberOfProduct.2.1 65 = .ok (.iload 7, 2) := by decide +kernel
theorem dX7_numberOfProduct_67 : decode mi_X7_numberOfProduct.2.1 67 = .ok (.invokevirtual 32, 3) := by decide +kernel
theorem dX7_numberOfProduct_70 : decode mi_X7_numberOfProduct.2.1 70 = .ok (.imul, 1) := by decide +kernel
theorem dX7_numberOfProduct_71 : decode mi_X7_numberOfProduct.2.1 71 = .ok (.aload_n 0, 1) := by decide +kernel
theorem dX7_numberOfProduct_72 : decode mi_X7_numberOfProduct.2.1 72 = .ok (.iload_n 1, 1) := by decide +kernel
theorem dX7_numberOfProduct_73 : decode mi_X7_numberOfProduct.2.1 73 = .ok (.iconst 2, 1) := by decide +kernel
theorem dX7_numberOfProduct_74 : decode mi_X7_numberOfProduct.2.1 74 = .ok (.iload 6, 2) := by decide +kernel
theorem dX7_numberOfProduct_76 : decode mi_X7_numberOfProduct.2.1 76 = .ok (.imul, 1) := by decide +kernel
theorem dX7_numberOfProduct_77 : decode mi_X7_numberOfProduct.2.1 77 = .ok (.iconst 1, 1) := by decide +kernel
theorem dX7_numberOfProduct_78 : decode mi_X7_numberOfProduct.2.1 78 = .ok (.iadd, 1) := by decide +kernel
theorem dX7_numberOfProduct_79 : decode mi_X7_numberOfProduct.2.1 79 = .ok (.invokevirtual 32, 3) := by decide +kernel
theorem dX7_numberOfProduct_82 : decode mi_X7_numberOfProduct.2.1 82 = .ok (.aload_n 0, 1) := by decide +kernel
theorem dX7_numberOfProduct_83 : decode mi_X7_numberOfProduct.2.1 83 = .ok (.iload_n 2, 1) := by decide +kernel
theorem dX7_numberOfProduct_84 : decode mi_X7_numberOfProduct.2.1 84 = .ok (.iconst 2, 1) := by decide +kernel
theorem dX7_numberOfProduct_85 : decode mi_X7_numberOfProduct.2.1 85 = .ok (.iload 7, 2) := by decide +kernel
theorem dX7_numberOfProduct_87 : decode mi_X7_numberOfProduct.2.1 87 = .ok (.iadd, 1) := by decide +kernel
theorem dX7_numberOfProduct_88 : decode mi_X7_numberOfProduct.2.1 88 = .ok (.invokevirtual 32, 3) := by decide +kernel
theorem dX7_numberOfProduct_91 : decode mi_X7_numberOfProduct.2.1 91 = .ok (.imul, 1) := by decide +kernel
theorem dX7_numberOfProduct_92 : decode mi_X7_numberOfProduct.2.1 92 = .ok (.iadd, 1) := by decide +kernel
theorem dX7_numberOfProduct_93 : decode mi_X7_numberOfProduct.2.1 93 = .ok (.if_icmp .ne 7, 3) := by decide +kernel
theorem dX7_numberOfProduct_96 : decode mi_X7_numberOfProduct.2.1 96 = .ok (.iconst 1, 1) := by decide +kernel
theorem dX7_numberOfProduct_97 : decode mi_X7_numberOfProduct.2.1 97 = .ok (.goto 4, 3) := by decide +kernel
theorem dX7_numberOfProduct_100 : decode mi_X7_numberOfProduct.2.1 100 = .ok (.iconst 0, 1) := by decide +kernel
theorem dX7_numberOfProduct_101 : decode mi_X7_numberOfProduct.2.1 101 = .ok (.istore 5, 2) := by decide +kernel
theorem dX7_numberOfProduct_103 : decode mi_X7_numberOfProduct.2.1 103 = .ok (.iinc 7 1, 3) := by decide +kernel
theorem dX7_numberOfProduct_106 : decode mi_X7_numberOfProduct.2.1 106 = .ok (.goto (-76), 3) := by decide +kernel
theorem dX7_numberOfProduct_109 : decode mi_X7_numberOfProduct.2.1 109 = .ok (.iinc 6 1, 3) := by decide +kernel
theorem dX7_numberOfProduct_112 : decode mi_X7_numberOfProduct.2.1 112 = .ok (.goto (-91), 3) := by decide +kernel
theorem dX7_numberOfProduct_115 : decode mi_X7_numberOfProduct.2.1 115 = .ok (.iload 5, 2) := by decide +kernel
theorem dX7_numberOfProduct_117 : decode mi_X7_numberOfProduct.2.1 117 = .ok (.ifCond .eq 8, 3) := by decide +kernel
theorem dX7_numberOfProduct_120 : decode mi_X7_numberOfProduct.2.1 120 = .ok (.iload 4, 2) := by decide +kernel
theorem dX7_numberOfProduct_122 : decode mi_X7_numberOfProduct.2.1 122 = .ok (.goto 4, 3) := by decide +kernel
theorem dX7_numberOfProduct_125 : decode mi_X7_numberOfProduct.2.1 125 = .ok (.iload_n 3, 1) := by decide +kernel
theorem dX7_numberOfProduct_126 : decode mi_X7_numberOfProduct.2.1 126 = .ok (.istore_n 3, 1) := by decide +kernel
theorem dX7_numberOfProduct_127 : decode mi_X7_numberOfProduct.2.1 127 = .ok (.iinc 4 1, 3) := by decide +kernel
theorem dX7_numberOfProduct_130 : decode mi_X7_numberOfProduct.2.1 130 = .ok (.goto (-124), 3) := by decide +kernel
theorem dX7_numberOfProduct_133 : decode mi_X7_numberOfProduct.2.1 133 = .ok (.iload_n 3, 1) := by decide +kernel
theorem dX7_numberOfProduct_134 : decode mi_X7_numberOfProduct.2.1 134 = .ok (.ireturn, 1) := by decide +kernel
theorem dX7_makeParts_0 : decode mi_X7_makeParts.2.1 0 = .ok (.aload_n 0, 1) := by decide +kernel
theorem dX7_makeParts_1 : decode mi_X7_makeParts.2.1 1 = .ok (.getfield 7, 3) := by decide +kernel
theorem dX7_makeParts_4 : decode mi_X7_makeParts.2.1 4 = .ok (.iconst 0, 1) := by decide +kernel
theorem dX7_makeParts_5 : decode mi_X7_makeParts.2.1 5 = .ok (.iaload, 1) := by decide +kernel
theorem dX7_makeParts_6 : decode mi_X7_makeParts.2.1 6 = .ok (.ifCond .ne 7, 3) := by decide +kernel
theorem dX7_makeParts_9 : decode mi_X7_makeParts.2.1 9 = .ok (.iconst 1, 1) := by decide +kernel
theorem dX7_makeParts_10 : decode mi_X7_makeParts.2.1 10 = .ok (.goto 4, 3) := by decide +kernel
theorem dX7_makeParts_13 : decode mi_X7_makeParts.2.1 13 = .ok (.iconst 0, 1) := by decide +kernel
theorem dX7_makeParts_14 : decode mi_X7_makeParts.2.1 14 = .ok (.istore_n 1, 1) := by decide +kernel
theorem dX7_makeParts_15 : decode mi_X7_makeParts.2.1 15 = .ok (.iload_n 1, 1) := by decide +kernel
theorem dX7_makeParts_16 : decode mi_X7_makeParts.2.1 16 = .ok (.ifCond .eq 7, 3) := by decide +kernel
theorem dX7_makeParts_19 : decode mi_X7_makeParts.2.1 19 = .ok (.iconst 4, 1) := by decide +kernel
theorem dX7_makeParts_20 : decode mi_X7_makeParts.2.1 20 = .ok (.goto 5, 3) := by decide +kernel
theorem dX7_makeParts_23 : decode mi_X7_makeParts.2.1 23 = .ok (.bipush 6, 2) := by decide +kernel
theorem dX7_makeParts_25 : decode mi_X7_makeParts.2.1 25 = .ok (.istore_n 2, 1) := by decide +kernel
theorem dX7_makeParts_26 : decode mi_X7_makeParts.2.1 26 = .ok (.aload_n 0, 1) := by decide +kernel
theorem dX7_makeParts_27 : decode mi_X7_makeParts.2.1 27 = .ok (.iconst 2, 1) := by decide +kernel
theorem dX7_makeParts_28 : decode mi_X7_makeParts.2.1 28 = .ok (.iload_n 2, 1) := by decide +kernel
theorem dX7_makeParts_29 : decode mi_X7_makeParts.2.1 29 = .ok (.imul, 1) := by decide +kernel
theorem dX7_makeParts_30 : decode mi_X7_makeParts.2.1 30 = .ok (.putfield 36, 3) := by decide +kernel
theorem dX7_makeParts_33 : decode mi_X7_makeParts.2.1 33 = .ok (.aload_n 0, 1) := by decide +kernel
theorem dX7_makeParts_34 : decode mi_X7_makeParts.2.1 34 = .ok (.iconst 0, 1) := by decide +kernel
theorem dX7_makeParts_35 : decode mi_X7_makeParts.2.1 35 = .ok (.iconst 1, 1) := by decide +kernel
theorem dX7_makeParts_36 : decode mi_X7_makeParts.2.1 36 = .ok (.iconst 0, 1) := by decide +kernel
theorem dX7_makeParts_37 : decode mi_X7_makeParts.2.1 37 = .ok (.iconst 0, 1) := by decide +kernel
theorem dX7_makeParts_38 : decode mi_X7_makeParts.2.1 38 = .ok (.iconst 1, 1) := by decide +kernel
theorem dX7_makeParts_39 : decode mi_X7_makeParts.2.1 39 = .ok (.invokevirtual 40, 3) := by decide +kernel
theorem dX7_makeParts_42 : decode mi_X7_makeParts.2.1 42 = .ok (.aload_n 0, 1) := by decide +kernel
theorem dX7_makeParts_43 : decode mi_X7_makeParts.2.1 43 = .ok (.iconst 1, 1) := by decide +kernel
theorem dX7_makeParts_44 : decode mi_X7_makeParts.2.1 44 = .ok (.iconst 0, 1) := by decide +kernel
theorem dX7_makeParts_45 : decode mi_X7_makeParts.2.1 45 = .ok (.iconst (-1), 1) := by decide +kernel
theorem dX7_makeParts_46 : decode mi_X7_makeParts.2.1 46 = .ok (.iconst 1, 1) := by decide +kernel
theorem dX7_makeParts_47 : decode mi_X7_makeParts.2.1 47 = .ok (.iload_n 1, 1) := by decide +kernel
theorem dX7_makeParts_48 : decode mi_X7_makeParts.2.1 48 = .ok (.ifCond .eq 7, 3) := by decide +kernel
theorem dX7_makeParts_51 : decode mi_X7_makeParts.2.1 51 = .ok (.iconst 0, 1) := by decide +kernel
theorem dX7_makeParts_52 : decode mi_X7_makeParts.2.1 52 = .ok (.goto 4, 3) := by decide +kernel
theorem dX7_makeParts_55 : decode mi_X7_makeParts.2.1 55 = .ok (.iconst 1, 1) := by decide +kernel
theorem dX7_makeParts_56 : decode mi_X7_makeParts.2.1 56 = .ok (.invokevirtual 40, 3) := by decide +kernel
theorem dX7_makeParts_59 : decode mi_X7_makeParts.2.1 59 = .ok (.iconst 2, 1) := by decide +kernel
theorem dX7_makeParts_60 : decode mi_X7_makeParts.2.1 60 = .ok (.istore_n 3, 1) := by decide +kernel
theorem dX7_makeParts_61 : decode mi_X7_makeParts.2.1 61 = .ok (.iload_n 3, 1) := by decide +kernel
theorem dX7_makeParts_62 : decode mi_X7_makeParts.2.1 62 = .ok (.iload_n 2, 1) := by decide +kernel
theorem dX7_makeParts_63 : decode mi_X7_makeParts.2.1 63 = .ok (.if_icmp .ge 18, 3) := by decide +kernel
theorem dX7_makeParts_66 : decode mi_X7_makeParts.2.1 66 = .ok (.aload_n 0, 1) := by decide +kernel
theorem dX7_makeParts_67 : decode mi_X7_makeParts.2.1 67 = .ok (.iload_n 3, 1) := by decide +kernel
theorem dX7_makeParts_68 : decode mi_X7_makeParts.2.1 68 = .ok (.iconst 1, 1) := by decide +kernel
theorem dX7_makeParts_69 : decode mi_X7_makeParts.2.1 69 = .ok (.isub, 1) := by decide +kernel
theorem dX7_makeParts_70 : decode mi_X7_makeParts.2.1 70 = .ok (.iconst 1, 1) := by decide +kernel
theorem dX7_makeParts_71 : decode mi_X7_makeParts.2.1 71 = .ok (.iload_n 3, 1) := by decide +kernel
theorem dX7_makeParts_72 : decode mi_X7_makeParts.2.1 72 = .ok (.invokevirtual 44, 3) := by decide +kernel
theorem dX7_makeParts_75 : decode mi_X7_makeParts.2.1 75 = .ok (.iinc 3 1, 3) := by decide +kernel
theorem dX7_makeParts_78 : decode mi_X7_makeParts.2.1 78 = .ok (.goto (-17), 3) := by decide +kernel
theorem dX7_makeParts_81 : decode mi_X7_makeParts.2.1 81 = .ok (.aload_n 0, 1) := by decide +kernel
theorem dX7_makeParts_82 : decode mi_X7_makeParts.2.1 82 = .ok (.iload_n 2, 1) := by decide +kernel
theorem dX7_makeParts_83 : decode mi_X7_makeParts.2.1 83 = .ok (.iload_n 1, 1) := by decide +kernel
theorem dX7_makeParts_84 : decode mi_X7_makeParts.2.1 84 = .ok (.ifCond .eq 7, 3) := by decide +kernel
theorem dX7_makeParts_87 : decode mi_X7_makeParts.2.1 87 = .ok (.iconst 1, 1) := by decide +kernel
theorem dX7_makeParts_88 : decode mi_X7_makeParts.2.1 88 = .ok (.goto 4, 3) := by decide +kernel
theorem dX7_makeParts_91 : decode mi_X7_makeParts.2.1 91 = .ok (.iconst 0, 1) := by decide +kernel
theorem dX7_makeParts_92 : decode mi_X7_makeParts.2.1 92 = .ok (.iload_n 1, 1) := by decide +kernel
theorem dX7_makeParts_93 : decode mi_X7_makeParts.2.1 93 = .ok (.ifCond .eq 7, 3) := by decide +kernel
theorem dX7_makeParts_96 : decode mi_X7_makeParts.2.1 96 = .ok (.iconst 0, 1) := by decide +kernel
theorem dX7_makeParts_97 : decode mi_X7_makeParts.2.1 97 = .ok (.goto 4, 3) := by decide +kernel
theorem dX7_makeParts_100 : decode mi_X7_makeParts.2.1 100 = .ok (.iconst 1, 1) := by decide +kernel
theorem dX7_makeParts_101 : decode mi_X7_makeParts.2.1 101 = .ok (.iload_n 1, 1) := by decide +kernel
theorem dX7_makeParts_102 : decode mi_X7_makeParts.2.1 102 = .ok (.ifCond .eq 7, 3) := by decide +kernel
theorem dX7_makeParts_105 : decode mi_X7_makeParts.2.1 105 = .ok (.iconst 0, 1) := by decide +kernel
theorem dX7_makeParts_106 : decode mi_X7_makeParts.2.1 106 = .ok (.goto 4, 3) := by decide +kernel
theorem dX7_makeParts_109 : decode mi_X7_makeParts.2.1 109 = .ok (.iconst 1, 1) := by decide +kernel
theorem dX7_makeParts_110 : decode mi_X7_makeParts.2.1 110 = .ok (.iload_n 1, 1) := by decide +kernel
theorem dX7_makeParts_111 : decode mi_X7_makeParts.2.1 111 = .ok (.ifCond .eq 7, 3) := by decide +kernel
theorem dX7_makeParts_114 : decode mi_X7_makeParts.2.1 114 = .ok (.iconst (-1), 1) := by decide +kernel
theorem dX7_makeParts_115 : decode mi_X7_makeParts.2.1 115 = .ok (.goto 4, 3) := by decide +kernel
theorem dX7_makeParts_118 : decode mi_X7_makeParts.2.1 118 = .ok (.iconst 0, 1) := by decide +kernel
theorem dX7_makeParts_119 : decode mi_X7_makeParts.2.1 119 = .ok (.invokevirtual 40, 3) := by decide +kernel
theorem dX7_makeParts_122 : decode mi_X7_makeParts.2.1 122 = .ok (.iconst 1, 1) := by decide +kernel
theorem dX7_makeParts_123 : decode mi_X7_makeParts.2.1 123 = .ok (.istore_n 3, 1) := by decide +kernel
theorem dX7_makeParts_124 : decode mi_X7_makeParts.2.1 124 = .ok (.iload_n 3, 1) := by decide +kernel
theorem dX7_makeParts_125 : decode mi_X7_makeParts.2.1 125 = .ok (.iload_n 2, 1) := by decide +kernel
theorem dX7_makeParts_126 : decode mi_X7_makeParts.2.1 126 = .ok (.if_icmp .ge 18, 3) := by decide +kernel
theorem dX7_makeParts_129 : decode mi_X7_makeParts.2.1 129 = .ok (.aload_n 0, 1) := by decide +kernel
theorem dX7_makeParts_130 : decode mi_X7_makeParts.2.1 130 = .ok (.iload_n 3, 1) := by decide +kernel
theorem dX7_makeParts_131 : decode mi_X7_makeParts.2.1 131 = .ok (.iload_n 2, 1) := by decide +kernel
theorem dX7_makeParts_132 : decode mi_X7_makeParts.2.1 132 = .ok (.iload_n 2, 1) := by decide +kernel
theorem dX7_makeParts_133 : decode mi_X7_makeParts.2.1 133 = .ok (.iload_n 3, 1) := by decide +kernel
theorem dX7_makeParts_134 : decode mi_X7_makeParts.2.1 134 = .ok (.iadd, 1) := by decide +kernel
theorem dX7_makeParts_135 : decode mi_X7_makeParts.2.1 135 = .ok (.invokevirtual 44, 3) := by decide +kernel
theorem dX7_makeParts_138 : decode mi_X7_makeParts.2.1 138 = .ok (.iinc 3 1, 3) := by decide +kernel
theorem dX7_makeParts_141 : decode mi_X7_makeParts.2.1 141 = .ok (.goto (-17), 3) := by decide +kernel
theorem dX7_makeParts_144 : decode mi_X7_makeParts.2.1 144 = .ok (.iconst 0, 1) := by decide +kernel
theorem dX7_makeParts_145 : decode mi_X7_makeParts.2.1 145 = .ok (.istore_n 3, 1) := by decide +kernel
theorem dX7_makeParts_146 : decode mi_X7_makeParts.2.1 146 = .ok (.iload_n 3, 1) := by decide +kernel
theorem dX7_makeParts_147 : decode mi_X7_makeParts.2.1 147 = .ok (.aload_n 0, 1) := by decide +kernel
theorem dX7_makeParts_148 : decode mi_X7_makeParts.2.1 148 = .ok (.getfield 36, 3) := by decide +kernel
theorem dX7_makeParts_151 : decode mi_X7_makeParts.2.1 151 = .ok (.if_icmp .ge 46, 3) := by decide +kernel
theorem dX7_makeParts_154 : decode mi_X7_makeParts.2.1 154 = .ok (.iconst 0, 1) := by decide +kernel
theorem dX7_makeParts_155 : decode mi_X7_makeParts.2.1 155 = .ok (.istore 4, 2) := by decide +kernel
theorem dX7_makeParts_157 : decode mi_X7_makeParts.2.1 157 = .ok (.iload 4, 2) := by decide +kernel
theorem dX7_makeParts_159 : decode mi_X7_makeParts.2.1 159 = .ok (.aload_n 0, 1) := by decide +kernel
theorem dX7_makeParts_160 : decode mi_X7_makeParts.2.1 160 = .ok (.getfield 36, 3) := by decide +kernel
theorem dX7_makeParts_163 : decode mi_X7_makeParts.2.1 163 = .ok (.if_icmp .ge 28, 3) := by decide +kernel
theorem dX7_makeParts_166 : decode mi_X7_makeParts.2.1 166 = .ok (.aload_n 0, 1) := by decide +kernel
theorem dX7_makeParts_167 : decode mi_X7_makeParts.2.1 167 = .ok (.getfield 19, 3) := by decide +kernel
theorem dX7_makeParts_170 : decode mi_X7_makeParts.2.1 170 = .ok (.bipush 12, 2) := by decide +kernel
theorem dX7_makeParts_172 : decode mi_X7_makeParts.2.1 172 = .ok (.iload_n 3, 1) := by decide +kernel
theorem dX7_makeParts_173 : decode mi_X7_makeParts.2.1 173 = .ok (.imul, 1) := by decide +kernel
theorem dX7_makeParts_174 : decode mi_X7_makeParts.2.1 174 = .ok (.iload 4, 2) := by decide +kernel
theorem dX7_makeParts_176 : decode mi_X7_makeParts.2.1 176 = .ok (.iadd, 1) := by decide +kernel
theorem dX7_makeParts_177 : decode mi_X7_makeParts.2.1 177 = .ok (.aload_n 0, 1) := by decide +kernel
theorem dX7_makeParts_178 : decode mi_X7_makeParts.2.1 178 = .ok (.iload_n 3, 1) := by decide +kernel
theorem dX7_makeParts_179 : decode mi_X7_makeParts.2.1 179 = .ok (.iload 4, 2) := by decide +kernel
theorem dX7_makeParts_181 : decode mi_X7_makeParts.2.1 181 = .ok (.invokevirtual 48, 3) := by decide +kernel
theorem dX7_makeParts_184 : decode mi_X7_makeParts.2.1 184 = .ok (.iastore, 1) := by decide +kernel
theorem dX7_makeParts_185 : decode mi_X7_makeParts.2.1 185 = .ok (.iinc 4 1, 3) := by decide +kernel
theorem dX7_makeParts_188 : decode mi_X7_makeParts.2.1 188 = .ok (.goto (-31), 3) := by decide +kernel
theorem dX7_makeParts_191 : decode mi_X7_makeParts.2.1 191 = .ok (.iinc 3 1, 3) := by decide +kernel
theorem dX7_makeParts_194 : decode mi_X7_makeParts.2.1 194 = .ok (.goto (-48), 3) := by decide +kernel
theorem dX7_makeParts_197 : decode mi_X7_makeParts.2.1 197 = .ok (.return_, 1) := by decide +kernel
theorem dX7_isTurn_0 : decode mi_X7_isTurn.2.1 0 = .ok (.iload_n 1, 1) := by decide +kernel
theorem dX7_isTurn_1 : decode mi_X7_isTurn.2.1 1 = .ok (.aload_n 0, 1) := by decide +kernel
theorem dX7_isTurn_2 : decode mi_X7_isTurn.2.1 2 = .ok (.getfield 36, 3) := by decide +kernel
theorem dX7_isTurn_5 : decode mi_X7_isTurn.2.1 5 = .ok (.iconst 2, 1) := by decide +kernel
theorem dX7_isTurn_6 : decode mi_X7_isTurn.2.1 6 = .ok (.idiv, 1) := by decide +kernel
theorem dX7_isTurn_7 : decode mi_X7_isTurn.2.1 7 = .ok (.if_icmp .ge 7, 3) := by decide +kernel
theorem dX7_isTurn_10 : decode mi_X7_isTurn.2.1 10 = .ok (.iconst 1, 1) := by decide +kernel
theorem dX7_isTurn_11 : decode mi_X7_isTurn.2.1 11 = .ok (.goto 4, 3) := by decide +kernel
theorem dX7_isTurn_14 : decode mi_X7_isTurn.2.1 14 = .ok (.iconst 0, 1) := by decide +kernel
theorem dX7_isTurn_15 : decode mi_X7_isTurn.2.1 15 = .ok (.ireturn, 1) := by decide +kernel
theorem dX7_orderOfPart_0 : decode mi_X7_orderOfPart.2.1 0 = .ok (.iconst 1, 1) := by decide +kernel
theorem dX7_orderOfPart_1 : decode mi_X7_orderOfPart.2.1 1 = .ok (.istore_n 2, 1) := by decide +kernel
theorem dX7_orderOfPart_2 : decode mi_X7_orderOfPart.2.1 2 = .ok (.iload_n 1, 1) := by decide +kernel
theorem dX7_orderOfPart_3 : decode mi_X7_orderOfPart.2.1 3 = .ok (.istore_n 3, 1) := by decide +kernel
theorem dX7_orderOfPart_4 : decode mi_X7_orderOfPart.2.1 4 = .ok (.iload_n 3, 1) := by decide +kernel
theorem dX7_orderOfPart_5 : decode mi_X7_orderOfPart.2.1 5 = .ok (.ifCond .eq 21, 3) := by decide +kernel
theorem dX7_orderOfPart_8 : decode mi_X7_orderOfPart.2.1 8 = .ok (.aload_n 0, 1) := by decide +kernel
theorem dX7_orderOfPart_9 : decode mi_X7_orderOfPart.2.1 9 = .ok (.getfield 19, 3) := by decide +kernel
theorem dX7_orderOfPart_12 : decode mi_X7_orderOfPart.2.1 12 = .ok (.bipush 12, 2) := by decide +kernel
theorem dX7_orderOfPart_14 : decode mi_X7_orderOfPart.2.1 14 = .ok (.iload_n 3, 1) := by decide +kernel
theorem dX7_orderOfPart_15 : decode mi_X7_orderOfPart.2.1 15 = .ok (.imul, 1) := by decide +kernel
theorem dX7_orderOfPart_16 : decode mi_X7_orderOfPart.2.1 16 = .ok (.iload_n 1, 1) := by decide +kernel
theorem dX7_orderOfPart_17 : decode mi_X7_orderOfPart.2.1 17 = .ok (.iadd, 1) := by decide +kernel
theorem dX7_orderOfPart_18 : decode mi_X7_orderOfPart.2.1 18 = .ok (.iaload, 1) := by decide +kernel
theorem dX7_orderOfPart_19 : decode mi_X7_orderOfPart.2.1 19 = .ok (.istore_n 3, 1) := by decide +kernel
theorem dX7_orderOfPart_20 : decode mi_X7_orderOfPart.2.1 20 = .ok (.iinc 2 1, 3) := by decide +kernel
theorem dX7_orderOfPart_23 : decode mi_X7_orderOfPart.2.1 23 = .ok (.goto (-19), 3) := by decide +kernel
theorem dX7_orderOfPart_26 : decode mi_X7_orderOfPart.2.1 26 = .ok (.iload_n 2, 1) := by decide +kernel
theorem dX7_orderOfPart_27 : decode mi_X7_orderOfPart.2.1 27 = .ok (.ireturn, 1) := by decide +kernel
theorem dX7_imageX_0 : decode mi_X7_imageX.2.1 0 = .ok (.aload_n 0, 1) := by decide +kernel
theorem dX7_imageX_1 : decode mi_X7_imageX.2.1 1 = .ok (.iload_n 1, 1) := by decide +kernel
theorem dX7_imageX_2 : decode mi_X7_imageX.2.1 2 = .ok (.iconst 0, 1) := by decide +kernel
theorem dX7_imageX_3 : decode mi_X7_imageX.2.1 3 = .ok (.invokevirtual 32, 3) := by decide +kernel
theorem dX7_imageX_6 : decode mi_X7_imageX.2.1 6 = .ok (.iload_n 2, 1) := by decide +kernel
theorem dX7_imageX_7 : decode mi_X7_imageX.2.1 7 = .ok (.imul, 1) := by decide +kernel
theorem dX7_imageX_8 : decode mi_X7_imageX.2.1 8 = .ok (.aload_n 0, 1) := by decide +kernel
theorem dX7_imageX_9 : decode mi_X7_imageX.2.1 9 = .ok (.iload_n 1, 1) := by decide +kernel
theorem dX7_imageX_10 : decode mi_X7_imageX.2.1 10 = .ok (.iconst 1, 1) := by decide +kernel
theorem dX7_imageX_11 : decode mi_X7_imageX.2.1 11 = .ok (.invokevirtual 32, 3) := by decide +kernel
theorem dX7_imageX_14 : decode mi_X7_imageX.2.1 14 = .ok (.iload_n 3, 1) := by decide +kernel
theorem dX7_imageX_15 : decode mi_X7_imageX.2.1 15 = .ok (.imul, 1) := by decide +kernel
theorem dX7_imageX_16 : decode mi_X7_imageX.2.1 16 = .ok (.iadd, 1) := by decide +kernel
theorem dX7_imageX_17 : decode mi_X7_imageX.2.1 17 = .ok (.ireturn, 1) := by decide +kernel
theorem dX7_imageY_0 : decode mi_X7_imageY.2.1 0 = .ok (.aload_n 0, 1) := by decide +kernel
theorem dX7_imageY_1 : decode mi_X7_imageY.2.1 1 = .ok (.iload_n 1, 1) := by decide +kernel
theorem dX7_imageY_2 : decode mi_X7_imageY.2.1 2 = .ok (.iconst 2, 1) := by decide +kernel
theorem dX7_imageY_3 : decode mi_X7_imageY.2.1 3 = .ok (.invokevirtual 32, 3) := by decide +kernel
theorem dX7_imageY_6 : decode mi_X7_imageY.2.1 6 = .ok (.iload_n 2, 1) := by decide +kernel
theorem dX7_imageY_7 : decode mi_X7_imageY.2.1 7 = .ok (.imul, 1) := by decide +kernel
theorem dX7_imageY_8 : decode mi_X7_imageY.2.1 8 = .ok (.aload_n 0, 1) := by decide +kernel
theorem dX7_imageY_9 : decode mi_X7_imageY.2.1 9 = .ok (.iload_n 1, 1) := by decide +kernel
theorem dX7_imageY_10 : decode mi_X7_imageY.2.1 10 = .ok (.iconst 3, 1) := by decide +kernel
theorem dX7_imageY_11 : decode mi_X7_imageY.2.1 11 = .ok (.invokevirtual 32, 3) := by decide +kernel
theorem dX7_imageY_14 : decode mi_X7_imageY.2.1 14 = .ok (.iload_n 3, 1) := by decide +kernel
theorem dX7_imageY_15 : decode mi_X7_imageY.2.1 15 = .ok (.imul, 1) := by decide +kernel
theorem dX7_imageY_16 : decode mi_X7_imageY.2.1 16 = .ok (.iadd, 1) := by decide +kernel
theorem dX7_imageY_17 : decode mi_X7_imageY.2.1 17 = .ok (.ireturn, 1) := by decide +kernel
theorem dX7_cells_0 : decode mi_X7_cells.2.1 0 = .ok (.aload_n 0, 1) := by decide +kernel
theorem dX7_cells_1 : decode mi_X7_cells.2.1 1 = .ok (.getfield 7, 3) := by decide +kernel
theorem dX7_cells_4 : decode mi_X7_cells.2.1 4 = .ok (.iconst 1, 1) := by decide +kernel
theorem dX7_cells_5 : decode mi_X7_cells.2.1 5 = .ok (.iaload, 1) := by decide +kernel
theorem dX7_cells_6 : decode mi_X7_cells.2.1 6 = .ok (.aload_n 0, 1) := by decide +kernel
theorem dX7_cells_7 : decode mi_X7_cells.2.1 7 = .ok (.getfield 7, 3) := by decide +kernel
theorem dX7_cells_10 : decode mi_X7_cells.2.1 10 = .ok (.iconst 1, 1) := by decide +kernel
theorem dX7_cells_11 : decode mi_X7_cells.2.1 11 = .ok (.iaload, 1) := by decide +kernel
theorem dX7_cells_12 : decode mi_X7_cells.2.1 12 = .ok (.imul, 1) := by decide +kernel
theorem dX7_cells_13 : decode mi_X7_cells.2.1 13 = .ok (.ireturn, 1) := by decide +kernel
theorem dX7_partOf_0 : decode mi_X7_partOf.2.1 0 = .ok (.iload_n 1, 1) := by decide +kernel
theorem dX7_partOf_1 : decode mi_X7_partOf.2.1 1 = .ok (.aload_n 0, 1) := by decide +kernel
theorem dX7_partOf_2 : decode mi_X7_partOf.2.1 2 = .ok (.invokevirtual 51, 3) := by decide +kernel
theorem dX7_partOf_5 : decode mi_X7_partOf.2.1 5 = .ok (.idiv, 1) := by decide +kernel
theorem dX7_partOf_6 : decode mi_X7_partOf.2.1 6 = .ok (.ireturn, 1) := by decide +kernel
theorem dX7_uOf_0 : decode mi_X7_uOf.2.1 0 = .ok (.iload_n 1, 1) := by decide +kernel
theorem dX7_uOf_1 : decode mi_X7_uOf.2.1 1 = .ok (.aload_n 0, 1) := by decide +kernel
theorem dX7_uOf_2 : decode mi_X7_uOf.2.1 2 = .ok (.invokevirtual 51, 3) := by decide +kernel
theorem dX7_uOf_5 : decode mi_X7_uOf.2.1 5 = .ok (.irem, 1) := by decide +kernel
theorem dX7_uOf_6 : decode mi_X7_uOf.2.1 6 = .ok (.aload_n 0, 1) := by decide +kernel
theorem dX7_uOf_7 : decode mi_X7_uOf.2.1 7 = .ok (.getfield 7, 3) := by decide +kernel
theorem dX7_uOf_10 : decode mi_X7_uOf.2.1 10 = .ok (.iconst 1, 1) := by decide +kernel
theorem dX7_uOf_11 : decode mi_X7_uOf.2.1 11 = .ok (.iaload, 1) := by decide +kernel
theorem dX7_uOf_12 : decode mi_X7_uOf.2.1 12 = .ok (.idiv, 1) := by decide +kernel
theorem dX7_uOf_13 : decode mi_X7_uOf.2.1 13 = .ok (.ireturn, 1) := by decide +kernel
theorem dX7_vOf_0 : decode mi_X7_vOf.2.1 0 = .ok (.iload_n 1, 1) := by decide +kernel
theorem dX7_vOf_1 : decode mi_X7_vOf.2.1 1 = .ok (.aload_n 0, 1) := by decide +kernel
theorem dX7_vOf_2 : decode mi_X7_vOf.2.1 2 = .ok (.getfield 7, 3) := by decide +kernel
theorem dX7_vOf_5 : decode mi_X7_vOf.2.1 5 = .ok (.iconst 1, 1) := by decide +kernel
theorem dX7_vOf_6 : decode mi_X7_vOf.2.1 6 = .ok (.iaload, 1) := by decide +kernel
theorem dX7_vOf_7 : decode mi_X7_vOf.2.1 7 = .ok (.irem, 1) := by decide +kernel
theorem dX7_vOf_8 : decode mi_X7_vOf.2.1 8 = .ok (.ireturn, 1) := by decide +kernel
theorem dX7_modulo_0 : decode mi_X7_modulo.2.1 0 = .ok (.iload_n 1, 1) := by decide +kernel
theorem dX7_modulo_1 : decode mi_X7_modulo.2.1 1 = .ok (.aload_n 0, 1) := by decide +kernel
theorem dX7_modulo_2 : decode mi_X7_modulo.2.1 2 = .ok (.getfield 7, 3) := by decide +kernel
theorem dX7_modulo_5 : decode mi_X7_modulo.2.1 5 = .ok (.iconst 1, 1) := by decide +kernel
theorem dX7_modulo_6 : decode mi_X7_modulo.2.1 6 = .ok (.iaload, 1) := by decide +kernel
theorem dX7_modulo_7 : decode mi_X7_modulo.2.1 7 = .ok (.irem, 1) := by decide +kernel
theorem dX7_modulo_8 : decode mi_X7_modulo.2.1 8 = .ok (.istore_n 2, 1) := by decide +kernel
theorem dX7_modulo_9 : decode mi_X7_modulo.2.1 9 = .ok (.iload_n 2, 1) := by decide +kernel
theorem dX7_modulo_10 : decode mi_X7_modulo.2.1 10 = .ok (.ifCond .ge 14, 3) := by decide +kernel
theorem dX7_modulo_13 : decode mi_X7_modulo.2.1 13 = .ok (.iload_n 2, 1) := by decide +kernel
theorem dX7_modulo_14 : decode mi_X7_modulo.2.1 14 = .ok (.aload_n 0, 1) := by decide +kernel
theorem dX7_modulo_15 : decode mi_X7_modulo.2.1 15 = .ok (.getfield 7, 3) := by decide +kernel
theorem dX7_modulo_18 : decode mi_X7_modulo.2.1 18 = .ok (.iconst 1, 1) := by decide +kernel
theorem dX7_modulo_19 : decode mi_X7_modulo.2.1 19 = .ok (.iaload, 1) := by decide +kernel
theorem dX7_modulo_20 : decode mi_X7_modulo.2.1 20 = .ok (.iadd, 1) := by decide +kernel
theorem dX7_modulo_21 : decode mi_X7_modulo.2.1 21 = .ok (.goto 4, 3) := by decide +kernel
theorem dX7_modulo_24 : decode mi_X7_modulo.2.1 24 = .ok (.iload_n 2, 1) := by decide +kernel
theorem dX7_modulo_25 : decode mi_X7_modulo.2.1 25 = .ok (.ireturn, 1) := by decide +kernel
theorem dX7_codeOf_0 : decode mi_X7_codeOf.2.1 0 = .ok (.iload_n 1, 1) := by decide +kernel
theorem dX7_codeOf_1 : decode mi_X7_codeOf.2.1 1 = .ok (.aload_n 0, 1) := by decide +kernel
theorem dX7_codeOf_2 : decode mi_X7_codeOf.2.1 2 = .ok (.invokevirtual 51, 3) := by decide +kernel
theorem dX7_codeOf_5 : decode mi_X7_codeOf.2.1 5 = .ok (.imul, 1) := by decide +kernel
theorem dX7_codeOf_6 : decode mi_X7_codeOf.2.1 6 = .ok (.aload_n 0, 1) := by decide +kernel
theorem dX7_codeOf_7 : decode mi_X7_codeOf.2.1 7 = .ok (.iload_n 2, 1) := by decide +kernel
theorem dX7_codeOf_8 : decode mi_X7_codeOf.2.1 8 = .ok (.invokevirtual 55, 3) := by decide +kernel
theorem dX7_codeOf_11 : decode mi_X7_codeOf.2.1 11 = .ok (.aload_n 0, 1) := by decide +kernel
theorem dX7_codeOf_12 : decode mi_X7_codeOf.2.1 12 = .ok (.getfield 7, 3) := by decide +kernel
theorem dX7_codeOf_15 : decode mi_X7_codeOf.2.1 15 = .ok (.iconst 1, 1) := by decide +kernel
theorem dX7_codeOf_16 : decode mi_X7_codeOf.2.1 16 = .ok (.iaload, 1) := by decide +kernel
theorem dX7_codeOf_17 : decode mi_X7_codeOf.2.1 17 = .ok (.imul, 1) := by decide +kernel
theorem dX7_codeOf_18 : decode mi_X7_codeOf.2.1 18 = .ok (.iadd, 1) := by decide +kernel
theorem dX7_codeOf_19 : decode mi_X7_codeOf.2.1 19 = .ok (.aload_n 0, 1) := by decide +kernel
theorem dX7_codeOf_20 : decode mi_X7_codeOf.2.1 20 = .ok (.iload_n 3, 1) := by decide +kernel
theorem dX7_codeOf_21 : decode mi_X7_codeOf.2.1 21 = .ok (.invokevirtual 55, 3) := by decide +kernel
theorem dX7_codeOf_24 : decode mi_X7_codeOf.2.1 24 = .ok (.iadd, 1) := by decide +kernel
theorem dX7_codeOf_25 : decode mi_X7_codeOf.2.1 25 = .ok (.ireturn, 1) := by decide +kernel
theorem dX7_times_0 : decode mi_X7_times.2.1 0 = .ok (.aload_n 0, 1) := by decide +kernel
theorem dX7_times_1 : decode mi_X7_times.2.1 1 = .ok (.iload_n 1, 1) := by decide +kernel
theorem dX7_times_2 : decode mi_X7_times.2.1 2 = .ok (.invokevirtual 59, 3) := by decide +kernel
theorem dX7_times_5 : decode mi_X7_times.2.1 5 = .ok (.istore_n 3, 1) := by decide +kernel
theorem dX7_times_6 : decode mi_X7_times.2.1 6 = .ok (.aload_n 0, 1) := by decide +kernel
theorem dX7_times_7 : decode mi_X7_times.2.1 7 = .ok (.iload_n 3, 1) := by decide +kernel
theorem dX7_times_8 : decode mi_X7_times.2.1 8 = .ok (.aload_n 0, 1) := by decide +kernel
theorem dX7_times_9 : decode mi_X7_times.2.1 9 = .ok (.iload_n 2, 1) := by decide +kernel
theorem dX7_times_10 : decode mi_X7_times.2.1 10 = .ok (.invokevirtual 62, 3) := by decide +kernel
theorem dX7_times_13 : decode mi_X7_times.2.1 13 = .ok (.aload_n 0, 1) := by decide +kernel
theorem dX7_times_14 : decode mi_X7_times.2.1 14 = .ok (.iload_n 2, 1) := by decide +kernel
theorem dX7_times_15 : decode mi_X7_times.2.1 15 = .ok (.invokevirtual 65, 3) := by decide +kernel
theorem dX7_times_18 : decode mi_X7_times.2.1 18 = .ok (.invokevirtual 68, 3) := by decide +kernel
theorem dX7_times_21 : decode mi_X7_times.2.1 21 = .ok (.aload_n 0, 1) := by decide +kernel
theorem dX7_times_22 : decode mi_X7_times.2.1 22 = .ok (.iload_n 1, 1) := by decide +kernel
theorem dX7_times_23 : decode mi_X7_times.2.1 23 = .ok (.invokevirtual 62, 3) := by decide +kernel
theorem dX7_times_26 : decode mi_X7_times.2.1 26 = .ok (.iadd, 1) := by decide +kernel
theorem dX7_times_27 : decode mi_X7_times.2.1 27 = .ok (.istore 4, 2) := by decide +kernel
theorem dX7_times_29 : decode mi_X7_times.2.1 29 = .ok (.aload_n 0, 1) := by decide +kernel
theorem dX7_times_30 : decode mi_X7_times.2.1 30 = .ok (.iload_n 3, 1) := by decide +kernel
theorem dX7_times_31 : decode mi_X7_times.2.1 31 = .ok (.aload_n 0, 1) := by decide +kernel
theorem dX7_times_32 : decode mi_X7_times.2.1 32 = .ok (.iload_n 2, 1) := by decide +kernel
theorem dX7_times_33 : decode mi_X7_times.2.1 33 = .ok (.invokevirtual 62, 3) := by decide +kernel
theorem dX7_times_36 : decode mi_X7_times.2.1 36 = .ok (.aload_n 0, 1) := by decide +kernel
theorem dX7_times_37 : decode mi_X7_times.2.1 37 = .ok (.iload_n 2, 1) := by decide +kernel
theorem dX7_times_38 : decode mi_X7_times.2.1 38 = .ok (.invokevirtual 65, 3) := by decide +kernel
theorem dX7_times_41 : decode mi_X7_times.2.1 41 = .ok (.invokevirtual 72, 3) := by decide +kernel
theorem dX7_times_44 : decode mi_X7_times.2.1 44 = .ok (.aload_n 0, 1) := by decide +kernel
theorem dX7_times_45 : decode mi_X7_times.2.1 45 = .ok (.iload_n 1, 1) := by decide +kernel
theorem dX7_times_46 : decode mi_X7_times.2.1 46 = .ok (.invokevirtual 65, 3) := by decide +kernel
theorem dX7_times_49 : decode mi_X7_times.2.1 49 = .ok (.iadd, 1) := by decide +kernel
theorem dX7_times_50 : decode mi_X7_times.2.1 50 = .ok (.istore 5, 2) := by decide +kernel
theorem dX7_times_52 : decode mi_X7_times.2.1 52 = .ok (.aload_n 0, 1) := by decide +kernel
theorem dX7_times_53 : decode mi_X7_times.2.1 53 = .ok (.aload_n 0, 1) := by decide +kernel
theorem dX7_times_54 : decode mi_X7_times.2.1 54 = .ok (.getfield 19, 3) := by decide +kernel
theorem dX7_times_57 : decode mi_X7_times.2.1 57 = .ok (.bipush 12, 2) := by decide +kernel
theorem dX7_times_59 : decode mi_X7_times.2.1 59 = .ok (.iload_n 3, 1) := by decide +kernel
theorem dX7_times_60 : decode mi_X7_times.2.1 60 = .ok (.imul, 1) := by decide +kernel
theorem dX7_times_61 : decode mi_X7_times.2.1 61 = .ok (.aload_n 0, 1) := by decide +kernel
theorem dX7_times_62 : decode mi_X7_times.2.1 62 = .ok (.iload_n 2, 1) := by decide +kernel
theorem dX7_times_63 : decode mi_X7_times.2.1 63 = .ok (.invokevirtual 59, 3) := by decide +kernel
theorem dX7_times_66 : decode mi_X7_times.2.1 66 = .ok (.iadd, 1) := by decide +kernel
theorem dX7_times_67 : decode mi_X7_times.2.1 67 = .ok (.iaload, 1) := by decide +kernel
theorem dX7_times_68 : decode mi_X7_times.2.1 68 = .ok (.iload 4, 2) := by decide +kernel
theorem dX7_times_70 : decode mi_X7_times.2.1 70 = .ok (.iload 5, 2) := by decide +kernel
theorem dX7_times_72 : decode mi_X7_times.2.1 72 = .ok (.invokevirtual 75, 3) := by decide +kernel
theorem dX7_times_75 : decode mi_X7_times.2.1 75 = .ok (.ireturn, 1) := by decide +kernel
theorem dX7_sends_0 : decode mi_X7_sends.2.1 0 = .ok (.iload_n 2, 1) := by decide +kernel
theorem dX7_sends_1 : decode mi_X7_sends.2.1 1 = .ok (.aload_n 0, 1) := by decide +kernel
theorem dX7_sends_2 : decode mi_X7_sends.2.1 2 = .ok (.getfield 7, 3) := by decide +kernel
theorem dX7_sends_5 : decode mi_X7_sends.2.1 5 = .ok (.iconst 1, 1) := by decide +kernel
theorem dX7_sends_6 : decode mi_X7_sends.2.1 6 = .ok (.iaload, 1) := by decide +kernel
theorem dX7_sends_7 : decode mi_X7_sends.2.1 7 = .ok (.idiv, 1) := by decide +kernel
theorem dX7_sends_8 : decode mi_X7_sends.2.1 8 = .ok (.istore_n 3, 1) := by decide +kernel
theorem dX7_sends_9 : decode mi_X7_sends.2.1 9 = .ok (.iload_n 2, 1) := by decide +kernel
theorem dX7_sends_10 : decode mi_X7_sends.2.1 10 = .ok (.aload_n 0, 1) := by decide +kernel
theorem dX7_sends_11 : decode mi_X7_sends.2.1 11 = .ok (.getfield 7, 3) := by decide +kernel
theorem dX7_sends_14 : decode mi_X7_sends.2.1 14 = .ok (.iconst 1, 1) := by decide +kernel
theorem dX7_sends_15 : decode mi_X7_sends.2.1 15 = .ok (.iaload, 1) := by decide +kernel
theorem dX7_sends_16 : decode mi_X7_sends.2.1 16 = .ok (.irem, 1) := by decide +kernel
theorem dX7_sends_17 : decode mi_X7_sends.2.1 17 = .ok (.istore 4, 2) := by decide +kernel
theorem dX7_sends_19 : decode mi_X7_sends.2.1 19 = .ok (.aload_n 0, 1) := by decide +kernel
theorem dX7_sends_20 : decode mi_X7_sends.2.1 20 = .ok (.iload_n 1, 1) := by decide +kernel
theorem dX7_sends_21 : decode mi_X7_sends.2.1 21 = .ok (.invokevirtual 59, 3) := by decide +kernel
theorem dX7_sends_24 : decode mi_X7_sends.2.1 24 = .ok (.istore 5, 2) := by decide +kernel
theorem dX7_sends_26 : decode mi_X7_sends.2.1 26 = .ok (.aload_n 0, 1) := by decide +kernel
theorem dX7_sends_27 : decode mi_X7_sends.2.1 27 = .ok (.aload_n 0, 1) := by decide +kernel
theorem dX7_sends_28 : decode mi_X7_sends.2.1 28 = .ok (.iload 5, 2) := by decide +kernel
theorem dX7_sends_30 : decode mi_X7_sends.2.1 30 = .ok (.iload_n 3, 1) := by decide +kernel
theorem dX7_sends_31 : decode mi_X7_sends.2.1 31 = .ok (.iload 4, 2) := by decide +kernel
theorem dX7_sends_33 : decode mi_X7_sends.2.1 33 = .ok (.invokevirtual 68, 3) := by decide +kernel
theorem dX7_sends_36 : decode mi_X7_sends.2.1 36 = .ok (.aload_n 0, 1) := by decide +kernel
theorem dX7_sends_37 : decode mi_X7_sends.2.1 37 = .ok (.iload_n 1, 1) := by decide +kernel
theorem dX7_sends_38 : decode mi_X7_sends.2.1 38 = .ok (.invokevirtual 62, 3) := by decide +kernel
theorem dX7_sends_41 : decode mi_X7_sends.2.1 41 = .ok (.iadd, 1) := by decide +kernel
theorem dX7_sends_42 : decode mi_X7_sends.2.1 42 = .ok (.invokevirtual 55, 3) := by decide +kernel
theorem dX7_sends_45 : decode mi_X7_sends.2.1 45 = .ok (.aload_n 0, 1) := by decide +kernel
theorem dX7_sends_46 : decode mi_X7_sends.2.1 46 = .ok (.getfield 7, 3) := by decide +kernel
theorem dX7_sends_49 : decode mi_X7_sends.2.1 49 = .ok (.iconst 1, 1) := by decide +kernel
theorem dX7_sends_50 : decode mi_X7_sends.2.1 50 = .ok (.iaload, 1) := by decide +kernel
theorem dX7_sends_51 : decode mi_X7_sends.2.1 51 = .ok (.imul, 1) := by decide +kernel
theorem dX7_sends_52 : decode mi_X7_sends.2.1 52 = .ok (.aload_n 0, 1) := by decide +kernel
theorem dX7_sends_53 : decode mi_X7_sends.2.1 53 = .ok (.aload_n 0, 1) := by decide +kernel
theorem dX7_sends_54 : decode mi_X7_sends.2.1 54 = .ok (.iload 5, 2) := by decide +kernel
theorem dX7_sends_56 : decode mi_X7_sends.2.1 56 = .ok (.iload_n 3, 1) := by decide +kernel
theorem dX7_sends_57 : decode mi_X7_sends.2.1 57 = .ok (.iload 4, 2) := by decide +kernel
theorem dX7_sends_59 : decode mi_X7_sends.2.1 59 = .ok (.invokevirtual 72, 3) := by decide +kernel
theorem dX7_sends_62 : decode mi_X7_sends.2.1 62 = .ok (.aload_n 0, 1) := by decide +kernel
theorem dX7_sends_63 : decode mi_X7_sends.2.1 63 = .ok (.iload_n 1, 1) := by decide +kernel
theorem dX7_sends_64 : decode mi_X7_sends.2.1 64 = .ok (.invokevirtual 65, 3) := by decide +kernel
theorem dX7_sends_67 : decode mi_X7_sends.2.1 67 = .ok (.iadd, 1) := by decide +kernel
theorem dX7_sends_68 : decode mi_X7_sends.2.1 68 = .ok (.invokevirtual 55, 3) := by decide +kernel
theorem dX7_sends_71 : decode mi_X7_sends.2.1 71 = .ok (.iadd, 1) := by decide +kernel
theorem dX7_sends_72 : decode mi_X7_sends.2.1 72 = .ok (.ireturn, 1) := by decide +kernel
theorem dX7_isCode_0 : decode mi_X7_isCode.2.1 0 = .ok (.iload_n 1, 1) := by decide +kernel
theorem dX7_isCode_1 : decode mi_X7_isCode.2.1 1 = .ok (.iconst 0, 1) := by decide +kernel
theorem dX7_isCode_2 : decode mi_X7_isCode.2.1 2 = .ok (.aload_n 0, 1) := by decide +kernel
theorem dX7_isCode_3 : decode mi_X7_isCode.2.1 3 = .ok (.getfield 36, 3) := by decide +kernel
theorem dX7_isCode_6 : decode mi_X7_isCode.2.1 6 = .ok (.aload_n 0, 1) := by decide +kernel
theorem dX7_isCode_7 : decode mi_X7_isCode.2.1 7 = .ok (.invokevirtual 51, 3) := by decide +kernel
theorem dX7_isCode_10 : decode mi_X7_isCode.2.1 10 = .ok (.imul, 1) := by decide +kernel
theorem dX7_isCode_11 : decode mi_X7_isCode.2.1 11 = .ok (.iconst 1, 1) := by decide +kernel
theorem dX7_isCode_12 : decode mi_X7_isCode.2.1 12 = .ok (.isub, 1) := by decide +kernel
theorem dX7_isCode_13 : decode mi_X7_isCode.2.1 13 = .ok (.invokestatic 78, 3) := by decide +kernel
theorem dX7_isCode_16 : decode mi_X7_isCode.2.1 16 = .ok (.ireturn, 1) := by decide +kernel
theorem dX7_divisor_0 : decode mi_X7_divisor.2.1 0 = .ok (.iload_n 0, 1) := by decide +kernel
theorem dX7_divisor_1 : decode mi_X7_divisor.2.1 1 = .ok (.ifCond .ge 8, 3) := by decide +kernel
theorem dX7_divisor_4 : decode mi_X7_divisor.2.1 4 = .ok (.iload_n 0, 1) := by decide +kernel
theorem dX7_divisor_5 : decode mi_X7_divisor.2.1 5 = .ok (.ineg, 1) := by decide +kernel
theorem dX7_divisor_6 : decode mi_X7_divisor.2.1 6 = .ok (.goto 4, 3) := by decide +kernel
theorem dX7_divisor_9 : decode mi_X7_divisor.2.1 9 = .ok (.iload_n 0, 1) := by decide +kernel
theorem dX7_divisor_10 : decode mi_X7_divisor.2.1 10 = .ok (.istore_n 2, 1) := by decide +kernel
theorem dX7_divisor_11 : decode mi_X7_divisor.2.1 11 = .ok (.iload_n 1, 1) := by decide +kernel
theorem dX7_divisor_12 : decode mi_X7_divisor.2.1 12 = .ok (.ifCond .ge 8, 3) := by decide +kernel
theorem dX7_divisor_15 : decode mi_X7_divisor.2.1 15 = .ok (.iload_n 1, 1) := by decide +kernel
theorem dX7_divisor_16 : decode mi_X7_divisor.2.1 16 = .ok (.ineg, 1) := by decide +kernel
theorem dX7_divisor_17 : decode mi_X7_divisor.2.1 17 = .ok (.goto 4, 3) := by decide +kernel
theorem dX7_divisor_20 : decode mi_X7_divisor.2.1 20 = .ok (.iload_n 1, 1) := by decide +kernel
theorem dX7_divisor_21 : decode mi_X7_divisor.2.1 21 = .ok (.istore_n 3, 1) := by decide +kernel
theorem dX7_divisor_22 : decode mi_X7_divisor.2.1 22 = .ok (.iload_n 3, 1) := by decide +kernel
theorem dX7_divisor_23 : decode mi_X7_divisor.2.1 23 = .ok (.ifCond .le 16, 3) := by decide +kernel
theorem dX7_divisor_26 : decode mi_X7_divisor.2.1 26 = .ok (.iload_n 2, 1) := by decide +kernel
theorem dX7_divisor_27 : decode mi_X7_divisor.2.1 27 = .ok (.iload_n 3, 1) := by decide +kernel
theorem dX7_divisor_28 : decode mi_X7_divisor.2.1 28 = .ok (.irem, 1) := by decide +kernel
theorem dX7_divisor_29 : decode mi_X7_divisor.2.1 29 = .ok (.istore 4, 2) := by decide +kernel
theorem dX7_divisor_31 : decode mi_X7_divisor.2.1 31 = .ok (.iload_n 3, 1) := by decide +kernel
theorem dX7_divisor_32 : decode mi_X7_divisor.2.1 32 = .ok (.istore_n 2, 1) := by decide +kernel
theorem dX7_divisor_33 : decode mi_X7_divisor.2.1 33 = .ok (.iload 4, 2) := by decide +kernel
theorem dX7_divisor_35 : decode mi_X7_divisor.2.1 35 = .ok (.istore_n 3, 1) := by decide +kernel
theorem dX7_divisor_36 : decode mi_X7_divisor.2.1 36 = .ok (.goto (-14), 3) := by decide +kernel
theorem dX7_divisor_39 : decode mi_X7_divisor.2.1 39 = .ok (.iload_n 2, 1) := by decide +kernel
theorem dX7_divisor_40 : decode mi_X7_divisor.2.1 40 = .ok (.ireturn, 1) := by decide +kernel
theorem dX7_isReflection_0 : decode mi_X7_isReflection.2.1 0 = .ok (.aload_n 0, 1) := by decide +kernel
theorem dX7_isReflection_1 : decode mi_X7_isReflection.2.1 1 = .ok (.iload_n 1, 1) := by decide +kernel
theorem dX7_isReflection_2 : decode mi_X7_isReflection.2.1 2 = .ok (.invokevirtual 59, 3) := by decide +kernel
theorem dX7_isReflection_5 : decode mi_X7_isReflection.2.1 5 = .ok (.istore_n 2, 1) := by decide +kernel
theorem dX7_isReflection_6 : decode mi_X7_isReflection.2.1 6 = .ok (.aload_n 0, 1) := by decide +kernel
theorem dX7_isReflection_7 : decode mi_X7_isReflection.2.1 7 = .ok (.iload_n 2, 1) := by decide +kernel
theorem dX7_isReflection_8 : decode mi_X7_isReflection.2.1 8 = .ok (.iconst 0, 1) := by decide +kernel
theorem dX7_isReflection_9 : decode mi_X7_isReflection.2.1 9 = .ok (.invokevirtual 32, 3) := by decide +kernel
theorem dX7_isReflection_12 : decode mi_X7_isReflection.2.1 12 = .ok (.iconst 1, 1) := by decide +kernel
theorem dX7_isReflection_13 : decode mi_X7_isReflection.2.1 13 = .ok (.isub, 1) := by decide +kernel
theorem dX7_isReflection_14 : decode mi_X7_isReflection.2.1 14 = .ok (.istore_n 3, 1) := by decide +kernel
theorem dX7_isReflection_15 : decode mi_X7_isReflection.2.1 15 = .ok (.aload_n 0, 1) := by decide +kernel
theorem dX7_isReflection_16 : decode mi_X7_isReflection.2.1 16 = .ok (.iload_n 2, 1) := by decide +kernel
theorem dX7_isReflection_17 : decode mi_X7_isReflection.2.1 17 = .ok (.iconst 2, 1) := by decide +kernel
theorem dX7_isReflection_18 : decode mi_X7_isReflection.2.1 18 = .ok (.invokevirtual 32, 3) := by decide +kernel
theorem dX7_isReflection_21 : decode mi_X7_isReflection.2.1 21 = .ok (.istore 4, 2) := by decide +kernel
theorem dX7_isReflection_23 : decode mi_X7_isReflection.2.1 23 = .ok (.iload_n 3, 1) := by decide +kernel
theorem dX7_isReflection_24 : decode mi_X7_isReflection.2.1 24 = .ok (.ifCond .ne 25, 3) := by decide +kernel
theorem dX7_isReflection_27 : decode mi_X7_isReflection.2.1 27 = .ok (.iload 4, 2) := by decide +kernel
theorem dX7_isReflection_29 : decode mi_X7_isReflection.2.1 29 = .ok (.ifCond .ne 20, 3) := by decide +kernel
theorem dX7_isReflection_32 : decode mi_X7_isReflection.2.1 32 = .ok (.aload_n 0, 1) := by decide +kernel
theorem dX7_isReflection_33 : decode mi_X7_isReflection.2.1 33 = .ok (.iload_n 2, 1) := by decide +kernel
theorem dX7_isReflection_34 : decode mi_X7_isReflection.2.1 34 = .ok (.iconst 1, 1) := by decide +kernel
theorem dX7_isReflection_35 : decode mi_X7_isReflection.2.1 35 = .ok (.invokevirtual 32, 3) := by decide +kernel
theorem dX7_isReflection_38 : decode mi_X7_isReflection.2.1 38 = .ok (.istore_n 3, 1) := by decide +kernel
theorem dX7_isReflection_39 : decode mi_X7_isReflection.2.1 39 = .ok (.aload_n 0, 1) := by decide +kernel
theorem dX7_isReflection_40 : decode mi_X7_isReflection.2.1 40 = .ok (.iload_n 2, 1) := by decide +kernel
theorem dX7_isReflection_41 : decode mi_X7_isReflection.2.1 41 = .ok (.iconst 3, 1) := by decide +kernel
theorem dX7_isReflection_42 : decode mi_X7_isReflection.2.1 42 = .ok (.invokevirtual 32, 3) := by decide +kernel
theorem dX7_isReflection_45 : decode mi_X7_isReflection.2.1 45 = .ok (.iconst 1, 1) := by decide +kernel
theorem dX7_isReflection_46 : decode mi_X7_isReflection.2.1 46 = .ok (.isub, 1) := by decide +kernel
theorem dX7_isReflection_47 : decode mi_X7_isReflection.2.1 47 = .ok (.istore 4, 2) := by decide +kernel
theorem dX7_isReflection_49 : decode mi_X7_isReflection.2.1 49 = .ok (.iload_n 3, 1) := by decide +kernel
theorem dX7_isReflection_50 : decode mi_X7_isReflection.2.1 50 = .ok (.iload 4, 2) := by decide +kernel
theorem dX7_isReflection_52 : decode mi_X7_isReflection.2.1 52 = .ok (.invokestatic 82, 3) := by decide +kernel
theorem dX7_isReflection_55 : decode mi_X7_isReflection.2.1 55 = .ok (.istore 5, 2) := by decide +kernel
theorem dX7_isReflection_57 : decode mi_X7_isReflection.2.1 57 = .ok (.iconst 0, 1) := by decide +kernel
theorem dX7_isReflection_58 : decode mi_X7_isReflection.2.1 58 = .ok (.istore 6, 2) := by decide +kernel
theorem dX7_isReflection_60 : decode mi_X7_isReflection.2.1 60 = .ok (.iconst 0, 1) := by decide +kernel
theorem dX7_isReflection_61 : decode mi_X7_isReflection.2.1 61 = .ok (.istore 7, 2) := by decide +kernel
theorem dX7_isReflection_63 : decode mi_X7_isReflection.2.1 63 = .ok (.iload 7, 2) := by decide +kernel
theorem dX7_isReflection_65 : decode mi_X7_isReflection.2.1 65 = .ok (.aload_n 0, 1) := by decide +kernel
theorem dX7_isReflection_66 : decode mi_X7_isReflection.2.1 66 = .ok (.getfield 7, 3) := by decide +kernel
theorem dX7_isReflection_69 : decode mi_X7_isReflection.2.1 69 = .ok (.iconst 1, 1) := by decide +kernel
theorem dX7_isReflection_70 : decode mi_X7_isReflection.2.1 70 = .ok (.iaload, 1) := by decide +kernel
theorem dX7_isReflection_71 : decode mi_X7_isReflection.2.1 71 = .ok (.if_icmp .ge 60, 3) := by decide +kernel
theorem dX7_isReflection_74 : decode mi_X7_isReflection.2.1 74 = .ok (.iload 6, 2) := by decide +kernel
theorem dX7_isReflection_76 : decode mi_X7_isReflection.2.1 76 = .ok (.ifCond .ne 42, 3) := by decide +kernel
theorem dX7_isReflection_79 : decode mi_X7_isReflection.2.1 79 = .ok (.aload_n 0, 1) := by decide +kernel
theorem dX7_isReflection_80 : decode mi_X7_isReflection.2.1 80 = .ok (.iload 7, 2) := by decide +kernel
theorem dX7_isReflection_82 : decode mi_X7_isReflection.2.1 82 = .ok (.iload_n 3, 1) := by decide +kernel
