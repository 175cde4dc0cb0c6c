theorem dX5_hasCode_8 : decode mi_X5_hasCode.2.1 8 = .ok (.ireturn, 1) := by decide +kernel
theorem dX5_cellOf_0 : decode mi_X5_cellOf.2.1 0 = .ok (.aload_n 0, 1) := by decide +kernel
theorem dX5_cellOf_1 : decode mi_X5_cellOf.2.1 1 = .ok (.getfield 15, 3) := by decide +kernel
theorem dX5_cellOf_4 : decode mi_X5_cellOf.2.1 4 = .ok (.iload_n 1, 1) := by decide +kernel
theorem dX5_cellOf_5 : decode mi_X5_cellOf.2.1 5 = .ok (.imul, 1) := by decide +kernel
theorem dX5_cellOf_6 : decode mi_X5_cellOf.2.1 6 = .ok (.iload_n 2, 1) := by decide +kernel
theorem dX5_cellOf_7 : decode mi_X5_cellOf.2.1 7 = .ok (.iadd, 1) := by decide +kernel
theorem dX5_cellOf_8 : decode mi_X5_cellOf.2.1 8 = .ok (.ireturn, 1) := by decide +kernel
theorem dX5_codeOf_0 : decode mi_X5_codeOf.2.1 0 = .ok (.iload_n 1, 1) := by decide +kernel
theorem dX5_codeOf_1 : decode mi_X5_codeOf.2.1 1 = .ok (.aload_n 0, 1) := by decide +kernel
theorem dX5_codeOf_2 : decode mi_X5_codeOf.2.1 2 = .ok (.invokevirtual 25, 3) := by decide +kernel
theorem dX5_codeOf_5 : decode mi_X5_codeOf.2.1 5 = .ok (.imul, 1) := by decide +kernel
theorem dX5_codeOf_6 : decode mi_X5_codeOf.2.1 6 = .ok (.aload_n 0, 1) := by decide +kernel
theorem dX5_codeOf_7 : decode mi_X5_codeOf.2.1 7 = .ok (.iload_n 2, 1) := by decide +kernel
theorem dX5_codeOf_8 : decode mi_X5_codeOf.2.1 8 = .ok (.iload_n 3, 1) := by decide +kernel
theorem dX5_codeOf_9 : decode mi_X5_codeOf.2.1 9 = .ok (.invokevirtual 38, 3) := by decide +kernel
theorem dX5_codeOf_12 : decode mi_X5_codeOf.2.1 12 = .ok (.iadd, 1) := by decide +kernel
theorem dX5_codeOf_13 : decode mi_X5_codeOf.2.1 13 = .ok (.ireturn, 1) := by decide +kernel
theorem dX5_partOf_0 : decode mi_X5_partOf.2.1 0 = .ok (.iload_n 1, 1) := by decide +kernel
theorem dX5_partOf_1 : decode mi_X5_partOf.2.1 1 = .ok (.aload_n 0, 1) := by decide +kernel
theorem dX5_partOf_2 : decode mi_X5_partOf.2.1 2 = .ok (.invokevirtual 25, 3) := by decide +kernel
theorem dX5_partOf_5 : decode mi_X5_partOf.2.1 5 = .ok (.invokestatic 42, 3) := by decide +kernel
theorem dX5_partOf_8 : decode mi_X5_partOf.2.1 8 = .ok (.ireturn, 1) := by decide +kernel
theorem dX5_shiftX_0 : decode mi_X5_shiftX.2.1 0 = .ok (.iload_n 1, 1) := by decide +kernel
theorem dX5_shiftX_1 : decode mi_X5_shiftX.2.1 1 = .ok (.aload_n 0, 1) := by decide +kernel
theorem dX5_shiftX_2 : decode mi_X5_shiftX.2.1 2 = .ok (.invokevirtual 25, 3) := by decide +kernel
theorem dX5_shiftX_5 : decode mi_X5_shiftX.2.1 5 = .ok (.invokestatic 45, 3) := by decide +kernel
theorem dX5_shiftX_8 : decode mi_X5_shiftX.2.1 8 = .ok (.aload_n 0, 1) := by decide +kernel
theorem dX5_shiftX_9 : decode mi_X5_shiftX.2.1 9 = .ok (.getfield 15, 3) := by decide +kernel
theorem dX5_shiftX_12 : decode mi_X5_shiftX.2.1 12 = .ok (.invokestatic 42, 3) := by decide +kernel
theorem dX5_shiftX_15 : decode mi_X5_shiftX.2.1 15 = .ok (.ireturn, 1) := by decide +kernel
theorem dX5_shiftY_0 : decode mi_X5_shiftY.2.1 0 = .ok (.iload_n 1, 1) := by decide +kernel
theorem dX5_shiftY_1 : decode mi_X5_shiftY.2.1 1 = .ok (.aload_n 0, 1) := by decide +kernel
theorem dX5_shiftY_2 : decode mi_X5_shiftY.2.1 2 = .ok (.getfield 15, 3) := by decide +kernel
theorem dX5_shiftY_5 : decode mi_X5_shiftY.2.1 5 = .ok (.invokestatic 45, 3) := by decide +kernel
theorem dX5_shiftY_8 : decode mi_X5_shiftY.2.1 8 = .ok (.ireturn, 1) := by decide +kernel
theorem dX5_wrap_0 : decode mi_X5_wrap.2.1 0 = .ok (.iload_n 1, 1) := by decide +kernel
theorem dX5_wrap_1 : decode mi_X5_wrap.2.1 1 = .ok (.aload_n 0, 1) := by decide +kernel
theorem dX5_wrap_2 : decode mi_X5_wrap.2.1 2 = .ok (.getfield 15, 3) := by decide +kernel
theorem dX5_wrap_5 : decode mi_X5_wrap.2.1 5 = .ok (.invokestatic 45, 3) := by decide +kernel
theorem dX5_wrap_8 : decode mi_X5_wrap.2.1 8 = .ok (.ireturn, 1) := by decide +kernel
theorem dX5_entry_0 : decode mi_X5_entry.2.1 0 = .ok (.aload_n 0, 1) := by decide +kernel
theorem dX5_entry_1 : decode mi_X5_entry.2.1 1 = .ok (.getfield 9, 3) := by decide +kernel
theorem dX5_entry_4 : decode mi_X5_entry.2.1 4 = .ok (.iconst 1, 1) := by decide +kernel
theorem dX5_entry_5 : decode mi_X5_entry.2.1 5 = .ok (.if_icmp .ne 9, 3) := by decide +kernel
theorem dX5_entry_8 : decode mi_X5_entry.2.1 8 = .ok (.getstatic 48, 3) := by decide +kernel
theorem dX5_entry_11 : decode mi_X5_entry.2.1 11 = .ok (.goto 6, 3) := by decide +kernel
theorem dX5_entry_14 : decode mi_X5_entry.2.1 14 = .ok (.getstatic 52, 3) := by decide +kernel
theorem dX5_entry_17 : decode mi_X5_entry.2.1 17 = .ok (.astore_n 3, 1) := by decide +kernel
theorem dX5_entry_18 : decode mi_X5_entry.2.1 18 = .ok (.iconst 4, 1) := by decide +kernel
theorem dX5_entry_19 : decode mi_X5_entry.2.1 19 = .ok (.iload_n 1, 1) := by decide +kernel
theorem dX5_entry_20 : decode mi_X5_entry.2.1 20 = .ok (.imul, 1) := by decide +kernel
theorem dX5_entry_21 : decode mi_X5_entry.2.1 21 = .ok (.iload_n 2, 1) := by decide +kernel
theorem dX5_entry_22 : decode mi_X5_entry.2.1 22 = .ok (.iadd, 1) := by decide +kernel
theorem dX5_entry_23 : decode mi_X5_entry.2.1 23 = .ok (.istore 4, 2) := by decide +kernel
theorem dX5_entry_25 : decode mi_X5_entry.2.1 25 = .ok (.iload 4, 2) := by decide +kernel
theorem dX5_entry_27 : decode mi_X5_entry.2.1 27 = .ok (.aload_n 3, 1) := by decide +kernel
theorem dX5_entry_28 : decode mi_X5_entry.2.1 28 = .ok (.arraylength, 1) := by decide +kernel
theorem dX5_entry_29 : decode mi_X5_entry.2.1 29 = .ok (.invokestatic 28, 3) := by decide +kernel
theorem dX5_entry_32 : decode mi_X5_entry.2.1 32 = .ok (.ifCond .eq 10, 3) := by decide +kernel
theorem dX5_entry_35 : decode mi_X5_entry.2.1 35 = .ok (.aload_n 3, 1) := by decide +kernel
theorem dX5_entry_36 : decode mi_X5_entry.2.1 36 = .ok (.iload 4, 2) := by decide +kernel
theorem dX5_entry_38 : decode mi_X5_entry.2.1 38 = .ok (.iaload, 1) := by decide +kernel
theorem dX5_entry_39 : decode mi_X5_entry.2.1 39 = .ok (.goto 4, 3) := by decide +kernel
theorem dX5_entry_42 : decode mi_X5_entry.2.1 42 = .ok (.iconst 0, 1) := by decide +kernel
theorem dX5_entry_43 : decode mi_X5_entry.2.1 43 = .ok (.ireturn, 1) := by decide +kernel
theorem dX5_imageX_0 : decode mi_X5_imageX.2.1 0 = .ok (.aload_n 0, 1) := by decide +kernel
theorem dX5_imageX_1 : decode mi_X5_imageX.2.1 1 = .ok (.iload_n 1, 1) := by decide +kernel
theorem dX5_imageX_2 : decode mi_X5_imageX.2.1 2 = .ok (.iconst 0, 1) := by decide +kernel
theorem dX5_imageX_3 : decode mi_X5_imageX.2.1 3 = .ok (.invokevirtual 55, 3) := by decide +kernel
theorem dX5_imageX_6 : decode mi_X5_imageX.2.1 6 = .ok (.iload_n 2, 1) := by decide +kernel
theorem dX5_imageX_7 : decode mi_X5_imageX.2.1 7 = .ok (.imul, 1) := by decide +kernel
theorem dX5_imageX_8 : decode mi_X5_imageX.2.1 8 = .ok (.aload_n 0, 1) := by decide +kernel
theorem dX5_imageX_9 : decode mi_X5_imageX.2.1 9 = .ok (.iload_n 1, 1) := by decide +kernel
theorem dX5_imageX_10 : decode mi_X5_imageX.2.1 10 = .ok (.iconst 1, 1) := by decide +kernel
theorem dX5_imageX_11 : decode mi_X5_imageX.2.1 11 = .ok (.invokevirtual 55, 3) := by decide +kernel
theorem dX5_imageX_14 : decode mi_X5_imageX.2.1 14 = .ok (.iload_n 3, 1) := by decide +kernel
theorem dX5_imageX_15 : decode mi_X5_imageX.2.1 15 = .ok (.imul, 1) := by decide +kernel
theorem dX5_imageX_16 : decode mi_X5_imageX.2.1 16 = .ok (.iadd, 1) := by decide +kernel
theorem dX5_imageX_17 : decode mi_X5_imageX.2.1 17 = .ok (.ireturn, 1) := by decide +kernel
theorem dX5_imageY_0 : decode mi_X5_imageY.2.1 0 = .ok (.aload_n 0, 1) := by decide +kernel
theorem dX5_imageY_1 : decode mi_X5_imageY.2.1 1 = .ok (.iload_n 1, 1) := by decide +kernel
theorem dX5_imageY_2 : decode mi_X5_imageY.2.1 2 = .ok (.iconst 2, 1) := by decide +kernel
theorem dX5_imageY_3 : decode mi_X5_imageY.2.1 3 = .ok (.invokevirtual 55, 3) := by decide +kernel
theorem dX5_imageY_6 : decode mi_X5_imageY.2.1 6 = .ok (.iload_n 2, 1) := by decide +kernel
theorem dX5_imageY_7 : decode mi_X5_imageY.2.1 7 = .ok (.imul, 1) := by decide +kernel
theorem dX5_imageY_8 : decode mi_X5_imageY.2.1 8 = .ok (.aload_n 0, 1) := by decide +kernel
theorem dX5_imageY_9 : decode mi_X5_imageY.2.1 9 = .ok (.iload_n 1, 1) := by decide +kernel
theorem dX5_imageY_10 : decode mi_X5_imageY.2.1 10 = .ok (.iconst 3, 1) := by decide +kernel
theorem dX5_imageY_11 : decode mi_X5_imageY.2.1 11 = .ok (.invokevirtual 55, 3) := by decide +kernel
theorem dX5_imageY_14 : decode mi_X5_imageY.2.1 14 = .ok (.iload_n 3, 1) := by decide +kernel
theorem dX5_imageY_15 : decode mi_X5_imageY.2.1 15 = .ok (.imul, 1) := by decide +kernel
theorem dX5_imageY_16 : decode mi_X5_imageY.2.1 16 = .ok (.iadd, 1) := by decide +kernel
theorem dX5_imageY_17 : decode mi_X5_imageY.2.1 17 = .ok (.ireturn, 1) := by decide +kernel
theorem dX5_imageOfCell_0 : decode mi_X5_imageOfCell.2.1 0 = .ok (.aload_n 0, 1) := by decide +kernel
theorem dX5_imageOfCell_1 : decode mi_X5_imageOfCell.2.1 1 = .ok (.iload_n 1, 1) := by decide +kernel
theorem dX5_imageOfCell_2 : decode mi_X5_imageOfCell.2.1 2 = .ok (.invokevirtual 58, 3) := by decide +kernel
theorem dX5_imageOfCell_5 : decode mi_X5_imageOfCell.2.1 5 = .ok (.istore_n 3, 1) := by decide +kernel
theorem dX5_imageOfCell_6 : decode mi_X5_imageOfCell.2.1 6 = .ok (.iload_n 2, 1) := by decide +kernel
theorem dX5_imageOfCell_7 : decode mi_X5_imageOfCell.2.1 7 = .ok (.aload_n 0, 1) := by decide +kernel
theorem dX5_imageOfCell_8 : decode mi_X5_imageOfCell.2.1 8 = .ok (.getfield 15, 3) := by decide +kernel
theorem dX5_imageOfCell_11 : decode mi_X5_imageOfCell.2.1 11 = .ok (.invokestatic 42, 3) := by decide +kernel
theorem dX5_imageOfCell_14 : decode mi_X5_imageOfCell.2.1 14 = .ok (.istore 4, 2) := by decide +kernel
theorem dX5_imageOfCell_16 : decode mi_X5_imageOfCell.2.1 16 = .ok (.iload_n 2, 1) := by decide +kernel
theorem dX5_imageOfCell_17 : decode mi_X5_imageOfCell.2.1 17 = .ok (.aload_n 0, 1) := by decide +kernel
theorem dX5_imageOfCell_18 : decode mi_X5_imageOfCell.2.1 18 = .ok (.getfield 15, 3) := by decide +kernel
theorem dX5_imageOfCell_21 : decode mi_X5_imageOfCell.2.1 21 = .ok (.invokestatic 45, 3) := by decide +kernel
theorem dX5_imageOfCell_24 : decode mi_X5_imageOfCell.2.1 24 = .ok (.istore 5, 2) := by decide +kernel
theorem dX5_imageOfCell_26 : decode mi_X5_imageOfCell.2.1 26 = .ok (.aload_n 0, 1) := by decide +kernel
theorem dX5_imageOfCell_27 : decode mi_X5_imageOfCell.2.1 27 = .ok (.aload_n 0, 1) := by decide +kernel
theorem dX5_imageOfCell_28 : decode mi_X5_imageOfCell.2.1 28 = .ok (.aload_n 0, 1) := by decide +kernel
theorem dX5_imageOfCell_29 : decode mi_X5_imageOfCell.2.1 29 = .ok (.iload_n 3, 1) := by decide +kernel
theorem dX5_imageOfCell_30 : decode mi_X5_imageOfCell.2.1 30 = .ok (.iload 4, 2) := by decide +kernel
theorem dX5_imageOfCell_32 : decode mi_X5_imageOfCell.2.1 32 = .ok (.iload 5, 2) := by decide +kernel
theorem dX5_imageOfCell_34 : decode mi_X5_imageOfCell.2.1 34 = .ok (.invokevirtual 62, 3) := by decide +kernel
theorem dX5_imageOfCell_37 : decode mi_X5_imageOfCell.2.1 37 = .ok (.aload_n 0, 1) := by decide +kernel
theorem dX5_imageOfCell_38 : decode mi_X5_imageOfCell.2.1 38 = .ok (.iload_n 1, 1) := by decide +kernel
theorem dX5_imageOfCell_39 : decode mi_X5_imageOfCell.2.1 39 = .ok (.invokevirtual 66, 3) := by decide +kernel
theorem dX5_imageOfCell_42 : decode mi_X5_imageOfCell.2.1 42 = .ok (.iadd, 1) := by decide +kernel
theorem dX5_imageOfCell_43 : decode mi_X5_imageOfCell.2.1 43 = .ok (.invokevirtual 69, 3) := by decide +kernel
theorem dX5_imageOfCell_46 : decode mi_X5_imageOfCell.2.1 46 = .ok (.aload_n 0, 1) := by decide +kernel
theorem dX5_imageOfCell_47 : decode mi_X5_imageOfCell.2.1 47 = .ok (.aload_n 0, 1) := by decide +kernel
theorem dX5_imageOfCell_48 : decode mi_X5_imageOfCell.2.1 48 = .ok (.iload_n 3, 1) := by decide +kernel
theorem dX5_imageOfCell_49 : decode mi_X5_imageOfCell.2.1 49 = .ok (.iload 4, 2) := by decide +kernel
theorem dX5_imageOfCell_51 : decode mi_X5_imageOfCell.2.1 51 = .ok (.iload 5, 2) := by decide +kernel
theorem dX5_imageOfCell_53 : decode mi_X5_imageOfCell.2.1 53 = .ok (.invokevirtual 72, 3) := by decide +kernel
theorem dX5_imageOfCell_56 : decode mi_X5_imageOfCell.2.1 56 = .ok (.aload_n 0, 1) := by decide +kernel
theorem dX5_imageOfCell_57 : decode mi_X5_imageOfCell.2.1 57 = .ok (.iload_n 1, 1) := by decide +kernel
theorem dX5_imageOfCell_58 : decode mi_X5_imageOfCell.2.1 58 = .ok (.invokevirtual 75, 3) := by decide +kernel
theorem dX5_imageOfCell_61 : decode mi_X5_imageOfCell.2.1 61 = .ok (.iadd, 1) := by decide +kernel
theorem dX5_imageOfCell_62 : decode mi_X5_imageOfCell.2.1 62 = .ok (.invokevirtual 69, 3) := by decide +kernel
theorem dX5_imageOfCell_65 : decode mi_X5_imageOfCell.2.1 65 = .ok (.invokevirtual 38, 3) := by decide +kernel
theorem dX5_imageOfCell_68 : decode mi_X5_imageOfCell.2.1 68 = .ok (.ireturn, 1) := by decide +kernel
theorem dX5_times_0 : decode mi_X5_times.2.1 0 = .ok (.aload_n 0, 1) := by decide +kernel
theorem dX5_times_1 : decode mi_X5_times.2.1 1 = .ok (.iload_n 1, 1) := by decide +kernel
theorem dX5_times_2 : decode mi_X5_times.2.1 2 = .ok (.invokevirtual 58, 3) := by decide +kernel
theorem dX5_times_5 : decode mi_X5_times.2.1 5 = .ok (.istore_n 3, 1) := by decide +kernel
theorem dX5_times_6 : decode mi_X5_times.2.1 6 = .ok (.aload_n 0, 1) := by decide +kernel
theorem dX5_times_7 : decode mi_X5_times.2.1 7 = .ok (.aload_n 0, 1) := by decide +kernel
theorem dX5_times_8 : decode mi_X5_times.2.1 8 = .ok (.iload_n 3, 1) := by decide +kernel
theorem dX5_times_9 : decode mi_X5_times.2.1 9 = .ok (.aload_n 0, 1) := by decide +kernel
theorem dX5_times_10 : decode mi_X5_times.2.1 10 = .ok (.iload_n 2, 1) := by decide +kernel
theorem dX5_times_11 : decode mi_X5_times.2.1 11 = .ok (.invokevirtual 66, 3) := by decide +kernel
theorem dX5_times_14 : decode mi_X5_times.2.1 14 = .ok (.aload_n 0, 1) := by decide +kernel
theorem dX5_times_15 : decode mi_X5_times.2.1 15 = .ok (.iload_n 2, 1) := by decide +kernel
theorem dX5_times_16 : decode mi_X5_times.2.1 16 = .ok (.invokevirtual 75, 3) := by decide +kernel
theorem dX5_times_19 : decode mi_X5_times.2.1 19 = .ok (.invokevirtual 62, 3) := by decide +kernel
theorem dX5_times_22 : decode mi_X5_times.2.1 22 = .ok (.aload_n 0, 1) := by decide +kernel
theorem dX5_times_23 : decode mi_X5_times.2.1 23 = .ok (.iload_n 1, 1) := by decide +kernel
theorem dX5_times_24 : decode mi_X5_times.2.1 24 = .ok (.invokevirtual 66, 3) := by decide +kernel
theorem dX5_times_27 : decode mi_X5_times.2.1 27 = .ok (.iadd, 1) := by decide +kernel
theorem dX5_times_28 : decode mi_X5_times.2.1 28 = .ok (.invokevirtual 69, 3) := by decide +kernel
theorem dX5_times_31 : decode mi_X5_times.2.1 31 = .ok (.istore 4, 2) := by decide +kernel
theorem dX5_times_33 : decode mi_X5_times.2.1 33 = .ok (.aload_n 0, 1) := by decide +kernel
theorem dX5_times_34 : decode mi_X5_times.2.1 34 = .ok (.aload_n 0, 1) := by decide +kernel
theorem dX5_times_35 : decode mi_X5_times.2.1 35 = .ok (.iload_n 3, 1) := by decide +kernel
theorem dX5_times_36 : decode mi_X5_times.2.1 36 = .ok (.aload_n 0, 1) := by decide +kernel
theorem dX5_times_37 : decode mi_X5_times.2.1 37 = .ok (.iload_n 2, 1) := by decide +kernel
theorem dX5_times_38 : decode mi_X5_times.2.1 38 = .ok (.invokevirtual 66, 3) := by decide +kernel
theorem dX5_times_41 : decode mi_X5_times.2.1 41 = .ok (.aload_n 0, 1) := by decide +kernel
theorem dX5_times_42 : decode mi_X5_times.2.1 42 = .ok (.iload_n 2, 1) := by decide +kernel
theorem dX5_times_43 : decode mi_X5_times.2.1 43 = .ok (.invokevirtual 75, 3) := by decide +kernel
theorem dX5_times_46 : decode mi_X5_times.2.1 46 = .ok (.invokevirtual 72, 3) := by decide +kernel
theorem dX5_times_49 : decode mi_X5_times.2.1 49 = .ok (.aload_n 0, 1) := by decide +kernel
theorem dX5_times_50 : decode mi_X5_times.2.1 50 = .ok (.iload_n 1, 1) := by decide +kernel
theorem dX5_times_51 : decode mi_X5_times.2.1 51 = .ok (.invokevirtual 75, 3) := by decide +kernel
theorem dX5_times_54 : decode mi_X5_times.2.1 54 = .ok (.iadd, 1) := by decide +kernel
theorem dX5_times_55 : decode mi_X5_times.2.1 55 = .ok (.invokevirtual 69, 3) := by decide +kernel
theorem dX5_times_58 : decode mi_X5_times.2.1 58 = .ok (.istore 5, 2) := by decide +kernel
theorem dX5_times_60 : decode mi_X5_times.2.1 60 = .ok (.aload_n 0, 1) := by decide +kernel
theorem dX5_times_61 : decode mi_X5_times.2.1 61 = .ok (.aload_n 0, 1) := by decide +kernel
theorem dX5_times_62 : decode mi_X5_times.2.1 62 = .ok (.iload_n 3, 1) := by decide +kernel
theorem dX5_times_63 : decode mi_X5_times.2.1 63 = .ok (.aload_n 0, 1) := by decide +kernel
theorem dX5_times_64 : decode mi_X5_times.2.1 64 = .ok (.iload_n 2, 1) := by decide +kernel
theorem dX5_times_65 : decode mi_X5_times.2.1 65 = .ok (.invokevirtual 58, 3) := by decide +kernel
theorem dX5_times_68 : decode mi_X5_times.2.1 68 = .ok (.invokevirtual 78, 3) := by decide +kernel
theorem dX5_times_71 : decode mi_X5_times.2.1 71 = .ok (.iload 4, 2) := by decide +kernel
theorem dX5_times_73 : decode mi_X5_times.2.1 73 = .ok (.iload 5, 2) := by decide +kernel
theorem dX5_times_75 : decode mi_X5_times.2.1 75 = .ok (.invokevirtual 81, 3) := by decide +kernel
theorem dX5_times_78 : decode mi_X5_times.2.1 78 = .ok (.ireturn, 1) := by decide +kernel
theorem dX5_timesPart_0 : decode mi_X5_timesPart.2.1 0 = .ok (.aload_n 0, 1) := by decide +kernel
theorem dX5_timesPart_1 : decode mi_X5_timesPart.2.1 1 = .ok (.invokevirtual 18, 3) := by decide +kernel
theorem dX5_timesPart_4 : decode mi_X5_timesPart.2.1 4 = .ok (.istore_n 3, 1) := by decide +kernel
theorem dX5_timesPart_5 : decode mi_X5_timesPart.2.1 5 = .ok (.iload_n 1, 1) := by decide +kernel
theorem dX5_timesPart_6 : decode mi_X5_timesPart.2.1 6 = .ok (.iload_n 3, 1) := by decide +kernel
theorem dX5_timesPart_7 : decode mi_X5_timesPart.2.1 7 = .ok (.if_icmp .lt 7, 3) := by decide +kernel
theorem dX5_timesPart_10 : decode mi_X5_timesPart.2.1 10 = .ok (.iconst 1, 1) := by decide +kernel
theorem dX5_timesPart_11 : decode mi_X5_timesPart.2.1 11 = .ok (.goto 4, 3) := by decide +kernel
theorem dX5_timesPart_14 : decode mi_X5_timesPart.2.1 14 = .ok (.iconst 0, 1) := by decide +kernel
theorem dX5_timesPart_15 : decode mi_X5_timesPart.2.1 15 = .ok (.istore 4, 2) := by decide +kernel
theorem dX5_timesPart_17 : decode mi_X5_timesPart.2.1 17 = .ok (.iload_n 2, 1) := by decide +kernel
theorem dX5_timesPart_18 : decode mi_X5_timesPart.2.1 18 = .ok (.iload_n 3, 1) := by decide +kernel
theorem dX5_timesPart_19 : decode mi_X5_timesPart.2.1 19 = .ok (.if_icmp .lt 7, 3) := by decide +kernel
theorem dX5_timesPart_22 : decode mi_X5_timesPart.2.1 22 = .ok (.iconst 1, 1) := by decide +kernel
theorem dX5_timesPart_23 : decode mi_X5_timesPart.2.1 23 = .ok (.goto 4, 3) := by decide +kernel
theorem dX5_timesPart_26 : decode mi_X5_timesPart.2.1 26 = .ok (.iconst 0, 1) := by decide +kernel
theorem dX5_timesPart_27 : decode mi_X5_timesPart.2.1 27 = .ok (.istore 5, 2) := by decide +kernel
theorem dX5_timesPart_29 : decode mi_X5_timesPart.2.1 29 = .ok (.iload 4, 2) := by decide +kernel
theorem dX5_timesPart_31 : decode mi_X5_timesPart.2.1 31 = .ok (.ifCond .eq 9, 3) := by decide +kernel
theorem dX5_timesPart_34 : decode mi_X5_timesPart.2.1 34 = .ok (.iload_n 1, 1) := by decide +kernel
theorem dX5_timesPart_35 : decode mi_X5_timesPart.2.1 35 = .ok (.iload_n 2, 1) := by decide +kernel
theorem dX5_timesPart_36 : decode mi_X5_timesPart.2.1 36 = .ok (.isub, 1) := by decide +kernel
theorem dX5_timesPart_37 : decode mi_X5_timesPart.2.1 37 = .ok (.goto 6, 3) := by decide +kernel
theorem dX5_timesPart_40 : decode mi_X5_timesPart.2.1 40 = .ok (.iload_n 1, 1) := by decide +kernel
theorem dX5_timesPart_41 : decode mi_X5_timesPart.2.1 41 = .ok (.iload_n 2, 1) := by decide +kernel
theorem dX5_timesPart_42 : decode mi_X5_timesPart.2.1 42 = .ok (.iadd, 1) := by decide +kernel
theorem dX5_timesPart_43 : decode mi_X5_timesPart.2.1 43 = .ok (.iload_n 3, 1) := by decide +kernel
theorem dX5_timesPart_44 : decode mi_X5_timesPart.2.1 44 = .ok (.invokestatic 45, 3) := by decide +kernel
theorem dX5_timesPart_47 : decode mi_X5_timesPart.2.1 47 = .ok (.istore 6, 2) := by decide +kernel
theorem dX5_timesPart_49 : decode mi_X5_timesPart.2.1 49 = .ok (.iload 4, 2) := by decide +kernel
theorem dX5_timesPart_51 : decode mi_X5_timesPart.2.1 51 = .ok (.iload 5, 2) := by decide +kernel
theorem dX5_timesPart_53 : decode mi_X5_timesPart.2.1 53 = .ok (.if_icmp .ne 8, 3) := by decide +kernel
theorem dX5_timesPart_56 : decode mi_X5_timesPart.2.1 56 = .ok (.iload 6, 2) := by decide +kernel
theorem dX5_timesPart_58 : decode mi_X5_timesPart.2.1 58 = .ok (.goto 7, 3) := by decide +kernel
theorem dX5_timesPart_61 : decode mi_X5_timesPart.2.1 61 = .ok (.iload_n 3, 1) := by decide +kernel
theorem dX5_timesPart_62 : decode mi_X5_timesPart.2.1 62 = .ok (.iload 6, 2) := by decide +kernel
theorem dX5_timesPart_64 : decode mi_X5_timesPart.2.1 64 = .ok (.iadd, 1) := by decide +kernel
theorem dX5_timesPart_65 : decode mi_X5_timesPart.2.1 65 = .ok (.ireturn, 1) := by decide +kernel
theorem dX5_inverseOf_0 : decode mi_X5_inverseOf.2.1 0 = .ok (.aload_n 0, 1) := by decide +kernel
theorem dX5_inverseOf_1 : decode mi_X5_inverseOf.2.1 1 = .ok (.aload_n 0, 1) := by decide +kernel
theorem dX5_inverseOf_2 : decode mi_X5_inverseOf.2.1 2 = .ok (.iload_n 1, 1) := by decide +kernel
theorem dX5_inverseOf_3 : decode mi_X5_inverseOf.2.1 3 = .ok (.invokevirtual 58, 3) := by decide +kernel
theorem dX5_inverseOf_6 : decode mi_X5_inverseOf.2.1 6 = .ok (.invokevirtual 84, 3) := by decide +kernel
theorem dX5_inverseOf_9 : decode mi_X5_inverseOf.2.1 9 = .ok (.istore_n 2, 1) := by decide +kernel
theorem dX5_inverseOf_10 : decode mi_X5_inverseOf.2.1 10 = .ok (.aload_n 0, 1) := by decide +kernel
theorem dX5_inverseOf_11 : decode mi_X5_inverseOf.2.1 11 = .ok (.aload_n 0, 1) := by decide +kernel
theorem dX5_inverseOf_12 : decode mi_X5_inverseOf.2.1 12 = .ok (.iload_n 2, 1) := by decide +kernel
theorem dX5_inverseOf_13 : decode mi_X5_inverseOf.2.1 13 = .ok (.aload_n 0, 1) := by decide +kernel
theorem dX5_inverseOf_14 : decode mi_X5_inverseOf.2.1 14 = .ok (.iload_n 1, 1) := by decide +kernel
theorem dX5_inverseOf_15 : decode mi_X5_inverseOf.2.1 15 = .ok (.invokevirtual 66, 3) := by decide +kernel
theorem dX5_inverseOf_18 : decode mi_X5_inverseOf.2.1 18 = .ok (.aload_n 0, 1) := by decide +kernel
theorem dX5_inverseOf_19 : decode mi_X5_inverseOf.2.1 19 = .ok (.iload_n 1, 1) := by decide +kernel
theorem dX5_inverseOf_20 : decode mi_X5_inverseOf.2.1 20 = .ok (.invokevirtual 75, 3) := by decide +kernel
theorem dX5_inverseOf_23 : decode mi_X5_inverseOf.2.1 23 = .ok (.invokevirtual 62, 3) := by decide +kernel
theorem dX5_inverseOf_26 : decode mi_X5_inverseOf.2.1 26 = .ok (.ineg, 1) := by decide +kernel
theorem dX5_inverseOf_27 : decode mi_X5_inverseOf.2.1 27 = .ok (.invokevirtual 69, 3) := by decide +kernel
theorem dX5_inverseOf_30 : decode mi_X5_inverseOf.2.1 30 = .ok (.istore_n 3, 1) := by decide +kernel
theorem dX5_inverseOf_31 : decode mi_X5_inverseOf.2.1 31 = .ok (.aload_n 0, 1) := by decide +kernel
theorem dX5_inverseOf_32 : decode mi_X5_inverseOf.2.1 32 = .ok (.aload_n 0, 1) := by decide +kernel
theorem dX5_inverseOf_33 : decode mi_X5_inverseOf.2.1 33 = .ok (.iload_n 2, 1) := by decide +kernel
theorem dX5_inverseOf_34 : decode mi_X5_inverseOf.2.1 34 = .ok (.aload_n 0, 1) := by decide +kernel
theorem dX5_inverseOf_35 : decode mi_X5_inverseOf.2.1 35 = .ok (.iload_n 1, 1) := by decide +kernel
theorem dX5_inverseOf_36 : decode mi_X5_inverseOf.2.1 36 = .ok (.invokevirtual 66, 3) := by decide +kernel
theorem dX5_inverseOf_39 : decode mi_X5_inverseOf.2.1 39 = .ok (.aload_n 0, 1) := by decide +kernel
theorem dX5_inverseOf_40 : decode mi_X5_inverseOf.2.1 40 = .ok (.iload_n 1, 1) := by decide +kernel
theorem dX5_inverseOf_41 : decode mi_X5_inverseOf.2.1 41 = .ok (.invokevirtual 75, 3) := by decide +kernel
theorem dX5_inverseOf_44 : decode mi_X5_inverseOf.2.1 44 = .ok (.invokevirtual 72, 3) := by decide +kernel
theorem dX5_inverseOf_47 : decode mi_X5_inverseOf.2.1 47 = .ok (.ineg, 1) := by decide +kernel
theorem dX5_inverseOf_48 : decode mi_X5_inverseOf.2.1 48 = .ok (.invokevirtual 69, 3) := by decide +kernel
theorem dX5_inverseOf_51 : decode mi_X5_inverseOf.2.1 51 = .ok (.istore 4, 2) := by decide +kernel
theorem dX5_inverseOf_53 : decode mi_X5_inverseOf.2.1 53 = .ok (.aload_n 0, 1) := by decide +kernel
theorem dX5_inverseOf_54 : decode mi_X5_inverseOf.2.1 54 = .ok (.iload_n 2, 1) := by decide +kernel
theorem dX5_inverseOf_55 : decode mi_X5_inverseOf.2.1 55 = .ok (.iload_n 3, 1) := by decide +kernel
theorem dX5_inverseOf_56 : decode mi_X5_inverseOf.2.1 56 = .ok (.iload 4, 2) := by decide +kernel
theorem dX5_inverseOf_58 : decode mi_X5_inverseOf.2.1 58 = .ok (.invokevirtual 81, 3) := by decide +kernel
theorem dX5_inverseOf_61 : decode mi_X5_inverseOf.2.1 61 = .ok (.ireturn, 1) := by decide +kernel
theorem dX5_inversePart_0 : decode mi_X5_inversePart.2.1 0 = .ok (.iload_n 1, 1) := by decide +kernel
theorem dX5_inversePart_1 : decode mi_X5_inversePart.2.1 1 = .ok (.aload_n 0, 1) := by decide +kernel
theorem dX5_inversePart_2 : decode mi_X5_inversePart.2.1 2 = .ok (.invokevirtual 18, 3) := by decide +kernel
theorem dX5_inversePart_5 : decode mi_X5_inversePart.2.1 5 = .ok (.if_icmp .ge 15, 3) := by decide +kernel
theorem dX5_inversePart_8 : decode mi_X5_inversePart.2.1 8 = .ok (.iload_n 1, 1) := by decide +kernel
theorem dX5_inversePart_9 : decode mi_X5_inversePart.2.1 9 = .ok (.ineg, 1) := by decide +kernel
theorem dX5_inversePart_10 : decode mi_X5_inversePart.2.1 10 = .ok (.aload_n 0, 1) := by decide +kernel
theorem dX5_inversePart_11 : decode mi_X5_inversePart.2.1 11 = .ok (.invokevirtual 18, 3) := by decide +kernel
theorem dX5_inversePart_14 : decode mi_X5_inversePart.2.1 14 = .ok (.invokestatic 45, 3) := by decide +kernel
theorem dX5_inversePart_17 : decode mi_X5_inversePart.2.1 17 = .ok (.goto 4, 3) := by decide +kernel
theorem dX5_inversePart_20 : decode mi_X5_inversePart.2.1 20 = .ok (.iload_n 1, 1) := by decide +kernel
theorem dX5_inversePart_21 : decode mi_X5_inversePart.2.1 21 = .ok (.ireturn, 1) := by decide +kernel
theorem dX5_factorsToIdentity_0 : decode mi_X5_factorsToIdentity.2.1 0 = .ok (.iconst 1, 1) := by decide +kernel
theorem dX5_factorsToIdentity_1 : decode mi_X5_factorsToIdentity.2.1 1 = .ok (.istore_n 2, 1) := by decide +kernel
theorem dX5_factorsToIdentity_2 : decode mi_X5_factorsToIdentity.2.1 2 = .ok (.iload_n 1, 1) := by decide +kernel
theorem dX5_factorsToIdentity_3 : decode mi_X5_factorsToIdentity.2.1 3 = .ok (.istore_n 3, 1) := by decide +kernel
theorem dX5_factorsToIdentity_4 : decode mi_X5_factorsToIdentity.2.1 4 = .ok (.iload_n 3, 1) := by decide +kernel
theorem dX5_factorsToIdentity_5 : decode mi_X5_factorsToIdentity.2.1 5 = .ok (.ifCond .eq 23, 3) := by decide +kernel
theorem dX5_factorsToIdentity_8 : decode mi_X5_factorsToIdentity.2.1 8 = .ok (.iload_n 2, 1) := by decide +kernel
theorem dX5_factorsToIdentity_9 : decode mi_X5_factorsToIdentity.2.1 9 = .ok (.sipush 300, 3) := by decide +kernel
theorem dX5_factorsToIdentity_12 : decode mi_X5_factorsToIdentity.2.1 12 = .ok (.if_icmp .ge 16, 3) := by decide +kernel
theorem dX5_factorsToIdentity_15 : decode mi_X5_factorsToIdentity.2.1 15 = .ok (.aload_n 0, 1) := by decide +kernel
theorem dX5_factorsToIdentity_16 : decode mi_X5_factorsToIdentity.2.1 16 = .ok (.iload_n 3, 1) := by decide +kernel
theorem dX5_factorsToIdentity_17 : decode mi_X5_factorsToIdentity.2.1 17 = .ok (.iload_n 1, 1) := by decide +kernel
theorem dX5_factorsToIdentity_18 : decode mi_X5_factorsToIdentity.2.1 18 = .ok (.invokevirtual 87, 3) := by decide +kernel
theorem dX5_factorsToIdentity_21 : decode mi_X5_factorsToIdentity.2.1 21 = .ok (.istore_n 3, 1) := by decide +kernel
theorem dX5_factorsToIdentity_22 : decode mi_X5_factorsToIdentity.2.1 22 = .ok (.iinc 2 1, 3) := by decide +kernel
theorem dX5_factorsToIdentity_25 : decode mi_X5_factorsToIdentity.2.1 25 = .ok (.goto (-21), 3) := by decide +kernel
theorem dX5_factorsToIdentity_28 : decode mi_X5_factorsToIdentity.2.1 28 = .ok (.iload_n 2, 1) := by decide +kernel
theorem dX5_factorsToIdentity_29 : decode mi_X5_factorsToIdentity.2.1 29 = .ok (.ireturn, 1) := by decide +kernel
theorem dX5_turnOrder_0 : decode mi_X5_turnOrder.2.1 0 = .ok (.iconst 1, 1) := by decide +kernel
theorem dX5_turnOrder_1 : decode mi_X5_turnOrder.2.1 1 = .ok (.istore_n 2, 1) := by decide +kernel
theorem dX5_turnOrder_2 : decode mi_X5_turnOrder.2.1 2 = .ok (.iload_n 2, 1) := by decide +kernel
theorem dX5_turnOrder_3 : decode mi_X5_turnOrder.2.1 3 = .ok (.bipush 12, 2) := by decide +kernel
theorem dX5_turnOrder_5 : decode mi_X5_turnOrder.2.1 5 = .ok (.if_icmp .ge 22, 3) := by decide +kernel
theorem dX5_turnOrder_8 : decode mi_X5_turnOrder.2.1 8 = .ok (.iload_n 2, 1) := by decide +kernel
theorem dX5_turnOrder_9 : decode mi_X5_turnOrder.2.1 9 = .ok (.iload_n 1, 1) := by decide +kernel
theorem dX5_turnOrder_10 : decode mi_X5_turnOrder.2.1 10 = .ok (.imul, 1) := by decide +kernel
theorem dX5_turnOrder_11 : decode mi_X5_turnOrder.2.1 11 = .ok (.aload_n 0, 1) := by decide +kernel
theorem dX5_turnOrder_12 : decode mi_X5_turnOrder.2.1 12 = .ok (.invokevirtual 18, 3) := by decide +kernel
theorem dX5_turnOrder_15 : decode mi_X5_turnOrder.2.1 15 = .ok (.invokestatic 45, 3) := by decide +kernel
theorem dX5_turnOrder_18 : decode mi_X5_turnOrder.2.1 18 = .ok (.ifCond .eq 9, 3) := by decide +kernel
theorem dX5_turnOrder_21 : decode mi_X5_turnOrder.2.1 21 = .ok (.iinc 2 1, 3) := by decide +kernel
theorem dX5_turnOrder_24 : decode mi_X5_turnOrder.2.1 24 = .ok (.goto (-22), 3) := by decide +kernel
theorem dX5_turnOrder_27 : decode mi_X5_turnOrder.2.1 27 = .ok (.iload_n 2, 1) := by decide +kernel
theorem dX5_turnOrder_28 : decode mi_X5_turnOrder.2.1 28 = .ok (.ireturn, 1) := by decide +kernel
theorem dX5_kindNumber_0 : decode mi_X5_kindNumber.2.1 0 = .ok (.aload_n 0, 1) := by decide +kernel
theorem dX5_kindNumber_1 : decode mi_X5_kindNumber.2.1 1 = .ok (.iload_n 1, 1) := by decide +kernel
theorem dX5_kindNumber_2 : decode mi_X5_kindNumber.2.1 2 = .ok (.invokevirtual 58, 3) := by decide +kernel
theorem dX5_kindNumber_5 : decode mi_X5_kindNumber.2.1 5 = .ok (.istore_n 2, 1) := by decide +kernel
theorem dX5_kindNumber_6 : decode mi_X5_kindNumber.2.1 6 = .ok (.iload_n 2, 1) := by decide +kernel
theorem dX5_kindNumber_7 : decode mi_X5_kindNumber.2.1 7 = .ok (.ifCond .ne 5, 3) := by decide +kernel
theorem dX5_kindNumber_10 : decode mi_X5_kindNumber.2.1 10 = .ok (.iconst 0, 1) := by decide +kernel
theorem dX5_kindNumber_11 : decode mi_X5_kindNumber.2.1 11 = .ok (.ireturn, 1) := by decide +kernel
theorem dX5_kindNumber_12 : decode mi_X5_kindNumber.2.1 12 = .ok (.iload_n 2, 1) := by decide +kernel
theorem dX5_kindNumber_13 : decode mi_X5_kindNumber.2.1 13 = .ok (.aload_n 0, 1) := by decide +kernel
theorem dX5_kindNumber_14 : decode mi_X5_kindNumber.2.1 14 = .ok (.invokevirtual 18, 3) := by decide +kernel
theorem dX5_kindNumber_17 : decode mi_X5_kindNumber.2.1 17 = .ok (.if_icmp .ge 5, 3) := by decide +kernel
theorem dX5_kindNumber_20 : decode mi_X5_kindNumber.2.1 20 = .ok (.iconst 1, 1) := by decide +kernel
theorem dX5_kindNumber_21 : decode mi_X5_kindNumber.2.1 21 = .ok (.ireturn, 1) := by decide +kernel
theorem dX5_kindNumber_22 : decode mi_X5_kindNumber.2.1 22 = .ok (.aload_n 0, 1) := by decide +kernel
theorem dX5_kindNumber_23 : decode mi_X5_kindNumber.2.1 23 = .ok (.iload_n 1, 1) := by decide +kernel
theorem dX5_kindNumber_24 : decode mi_X5_kindNumber.2.1 24 = .ok (.invokevirtual 90, 3) := by decide +kernel
theorem dX5_kindNumber_27 : decode mi_X5_kindNumber.2.1 27 = .ok (.ifCond .eq 7, 3) := by decide +kernel
theorem dX5_kindNumber_30 : decode mi_X5_kindNumber.2.1 30 = .ok (.iconst 2, 1) := by decide +kernel
theorem dX5_kindNumber_31 : decode mi_X5_kindNumber.2.1 31 = .ok (.goto 4, 3) := by decide +kernel
theorem dX5_kindNumber_34 : decode mi_X5_kindNumber.2.1 34 = .ok (.iconst 3, 1) := by decide +kernel
theorem dX5_kindNumber_35 : decode mi_X5_kindNumber.2.1 35 = .ok (.ireturn, 1) := by decide +kernel
theorem dX5_isReflection_0 : decode mi_X5_isReflection.2.1 0 = .ok (.aload_n 0, 1) := by decide +kernel
theorem dX5_isReflection_1 : decode mi_X5_isReflection.2.1 1 = .ok (.iload_n 1, 1) := by decide +kernel
theorem dX5_isReflection_2 : decode mi_X5_isReflection.2.1 2 = .ok (.invokevirtual 58, 3) := by decide +kernel
theorem dX5_isReflection_5 : decode mi_X5_isReflection.2.1 5 = .ok (.istore_n 2, 1) := by decide +kernel
theorem dX5_isReflection_6 : decode mi_X5_isReflection.2.1 6 = .ok (.iconst 1, 1) := by decide +kernel
theorem dX5_isReflection_7 : decode mi_X5_isReflection.2.1 7 = .ok (.aload_n 0, 1) := by decide +kernel
theorem dX5_isReflection_8 : decode mi_X5_isReflection.2.1 8 = .ok (.iload_n 2, 1) := by decide +kernel
theorem dX5_isReflection_9 : decode mi_X5_isReflection.2.1 9 = .ok (.iconst 0, 1) := by decide +kernel
theorem dX5_isReflection_10 : decode mi_X5_isReflection.2.1 10 = .ok (.invokevirtual 55, 3) := by decide +kernel
theorem dX5_isReflection_13 : decode mi_X5_isReflection.2.1 13 = .ok (.iadd, 1) := by decide +kernel
theorem dX5_isReflection_14 : decode mi_X5_isReflection.2.1 14 = .ok (.istore_n 3, 1) := by decide +kernel
theorem dX5_isReflection_15 : decode mi_X5_isReflection.2.1 15 = .ok (.aload_n 0, 1) := by decide +kernel
theorem dX5_isReflection_16 : decode mi_X5_isReflection.2.1 16 = .ok (.iload_n 2, 1) := by decide +kernel
theorem dX5_isReflection_17 : decode mi_X5_isReflection.2.1 17 = .ok (.iconst 1, 1) := by decide +kernel
theorem dX5_isReflection_18 : decode mi_X5_isReflection.2.1 18 = .ok (.invokevirtual 55, 3) := by decide +kernel
theorem dX5_isReflection_21 : decode mi_X5_isReflection.2.1 21 = .ok (.istore 4, 2) := by decide +kernel
theorem dX5_isReflection_23 : decode mi_X5_isReflection.2.1 23 = .ok (.iload_n 3, 1) := by decide +kernel
theorem dX5_isReflection_24 : decode mi_X5_isReflection.2.1 24 = .ok (.ifCond .ne 25, 3) := by decide +kernel
theorem dX5_isReflection_27 : decode mi_X5_isReflection.2.1 27 = .ok (.iload 4, 2) := by decide +kernel
theorem dX5_isReflection_29 : decode mi_X5_isReflection.2.1 29 = .ok (.ifCond .ne 20, 3) := by decide +kernel
theorem dX5_isReflection_32 : decode mi_X5_isReflection.2.1 32 = .ok (.aload_n 0, 1) := by decide +kernel
theorem dX5_isReflection_33 : decode mi_X5_isReflection.2.1 33 = .ok (.iload_n 2, 1) := by decide +kernel
theorem dX5_isReflection_34 : decode mi_X5_isReflection.2.1 34 = .ok (.iconst 2, 1) := by decide +kernel
theorem dX5_isReflection_35 : decode mi_X5_isReflection.2.1 35 = .ok (.invokevirtual 55, 3) := by decide +kernel
theorem dX5_isReflection_38 : decode mi_X5_isReflection.2.1 38 = .ok (.istore_n 3, 1) := by decide +kernel
theorem dX5_isReflection_39 : decode mi_X5_isReflection.2.1 39 = .ok (.iconst 1, 1) := by decide +kernel
theorem dX5_isReflection_40 : decode mi_X5_isReflection.2.1 40 = .ok (.aload_n 0, 1) := by decide +kernel
theorem dX5_isReflection_41 : decode mi_X5_isReflection.2.1 41 = .ok (.iload_n 2, 1) := by decide +kernel
theorem dX5_isReflection_42 : decode mi_X5_isReflection.2.1 42 = .ok (.iconst 3, 1) := by decide +kernel
theorem dX5_isReflection_43 : decode mi_X5_isReflection.2.1 43 = .ok (.invokevirtual 55, 3) := by decide +kernel
theorem dX5_isReflection_46 : decode mi_X5_isReflection.2.1 46 = .ok (.iadd, 1) := by decide +kernel
theorem dX5_isReflection_47 : decode mi_X5_isReflection.2.1 47 = .ok (.istore 4, 2) := by decide +kernel
theorem dX5_isReflection_49 : decode mi_X5_isReflection.2.1 49 = .ok (.iload_n 3, 1) := by decide +kernel
theorem dX5_isReflection_50 : decode mi_X5_isReflection.2.1 50 = .ok (.iconst 2, 1) := by decide +kernel
theorem dX5_isReflection_51 : decode mi_X5_isReflection.2.1 51 = .ok (.irem, 1) := by decide +kernel
theorem dX5_isReflection_52 : decode mi_X5_isReflection.2.1 52 = .ok (.ifCond .ne 20, 3) := by decide +kernel
theorem dX5_isReflection_55 : decode mi_X5_isReflection.2.1 55 = .ok (.iload 4, 2) := by decide +kernel
theorem dX5_isReflection_57 : decode mi_X5_isReflection.2.1 57 = .ok (.iconst 2, 1) := by decide +kernel
theorem dX5_isReflection_58 : decode mi_X5_isReflection.2.1 58 = .ok (.irem, 1) := by decide +kernel
theorem dX5_isReflection_59 : decode mi_X5_isReflection.2.1 59 = .ok (.ifCond .ne 13, 3) := by decide +kernel
theorem dX5_isReflection_62 : decode mi_X5_isReflection.2.1 62 = .ok (.iload_n 3, 1) := by decide +kernel
theorem dX5_isReflection_63 : decode mi_X5_isReflection.2.1 63 = .ok (.iconst 2, 1) := by decide +kernel
theorem dX5_isReflection_64 : decode mi_X5_isReflection.2.1 64 = .ok (.idiv, 1) := by decide +kernel
theorem dX5_isReflection_65 : decode mi_X5_isReflection.2.1 65 = .ok (.istore_n 3, 1) := by decide +kernel
theorem dX5_isReflection_66 : decode mi_X5_isReflection.2.1 66 = .ok (.iload 4, 2) := by decide +kernel
theorem dX5_isReflection_68 : decode mi_X5_isReflection.2.1 68 = .ok (.iconst 2, 1) := by decide +kernel
theorem dX5_isReflection_69 : decode mi_X5_isReflection.2.1 69 = .ok (.idiv, 1) := by decide +kernel
theorem dX5_isReflection_70 : decode mi_X5_isReflection.2.1 70 = .ok (.istore 4, 2) := by decide +kernel
theorem dX5_isReflection_72 : decode mi_X5_isReflection.2.1 72 = .ok (.aload_n 0, 1) := by decide +kernel
theorem dX5_isReflection_73 : decode mi_X5_isReflection.2.1 73 = .ok (.iload_n 3, 1) := by decide +kernel
theorem dX5_isReflection_74 : decode mi_X5_isReflection.2.1 74 = .ok (.aload_n 0, 1) := by decide +kernel
theorem dX5_isReflection_75 : decode mi_X5_isReflection.2.1 75 = .ok (.iload_n 1, 1) := by decide +kernel
theorem dX5_isReflection_76 : decode mi_X5_isReflection.2.1 76 = .ok (.invokevirtual 66, 3) := by decide +kernel
theorem dX5_isReflection_79 : decode mi_X5_isReflection.2.1 79 = .ok (.imul, 1) := by decide +kernel
theorem dX5_isReflection_80 : decode mi_X5_isReflection.2.1 80 = .ok (.iload 4, 2) := by decide +kernel
theorem dX5_isReflection_82 : decode mi_X5_isReflection.2.1 82 = .ok (.aload_n 0, 1) := by decide +kernel
theorem dX5_isReflection_83 : decode mi_X5_isReflection.2.1 83 = .ok (.iload_n 1, 1) := by decide +kernel
theorem dX5_isReflection_84 : decode mi_X5_isReflection.2.1 84 = .ok (.invokevirtual 75, 3) := by decide +kernel
theorem dX5_isReflection_87 : decode mi_X5_isReflection.2.1 87 = .ok (.imul, 1) := by decide +kernel
theorem dX5_isReflection_88 : decode mi_X5_isReflection.2.1 88 = .ok (.iadd, 1) := by decide +kernel
theorem dX5_isReflection_89 : decode mi_X5_isReflection.2.1 89 = .ok (.invokevirtual 69, 3) := by decide +kernel
theorem dX5_isReflection_92 : decode mi_X5_isReflection.2.1 92 = .ok (.ifCond .ne 7, 3) := by decide +kernel
theorem dX5_isReflection_95 : decode mi_X5_isReflection.2.1 95 = .ok (.iconst 1, 1) := by decide +kernel
theorem dX5_isReflection_96 : decode mi_X5_isReflection.2.1 96 = .ok (.goto 4, 3) := by decide +kernel
theorem dX5_isReflection_99 : decode mi_X5_isReflection.2.1 99 = .ok (.iconst 0, 1) := by decide +kernel
theorem dX5_isReflection_100 : decode mi_X5_isReflection.2.1 100 = .ok (.ireturn, 1) := by decide +kernel
theorem dX6_setLattice_0 : decode mi_X6_setLattice.2.1 0 = .ok (.iload_n 1, 1) := by decide +kernel
theorem dX6_setLattice_1 : decode mi_X6_setLattice.2.1 1 = .ok (.ifCond .lt 18, 3) := by decide +kernel
theorem dX6_setLattice_4 : decode mi_X6_setLattice.2.1 4 = .ok (.iload_n 1, 1) := by decide +kernel
theorem dX6_setLattice_5 : decode mi_X6_setLattice.2.1 5 = .ok (.iconst 1, 1) := by decide +kernel
theorem dX6_setLattice_6 : decode mi_X6_setLattice.2.1 6 = .ok (.if_icmp .gt 13, 3) := by decide +kernel
theorem dX6_setLattice_9 : decode mi_X6_setLattice.2.1 9 = .ok (.iload_n 2, 1) := by decide +kernel
theorem dX6_setLattice_10 : decode mi_X6_setLattice.2.1 10 = .ok (.iconst 1, 1) := by decide +kernel
theorem dX6_setLattice_11 : decode mi_X6_setLattice.2.1 11 = .ok (.if_icmp .lt 8, 3) := by decide +kernel
theorem dX6_setLattice_14 : decode mi_X6_setLattice.2.1 14 = .ok (.iload_n 2, 1) := by decide +kernel
theorem dX6_setLattice_15 : decode mi_X6_setLattice.2.1 15 = .ok (.iconst 5, 1) := by decide +kernel
theorem dX6_setLattice_16 : decode mi_X6_setLattice.2.1 16 = .ok (.if_icmp .le 5, 3) := by decide +kernel
theorem dX6_setLattice_19 : decode mi_X6_setLattice.2.1 19 = .ok (.iconst (-1), 1) := by decide +kernel
theorem dX6_setLattice_20 : decode mi_X6_setLattice.2.1 20 = .ok (.ireturn, 1) := by decide +kernel
theorem dX6_setLattice_21 : decode mi_X6_setLattice.2.1 21 = .ok (.aload_n 0, 1) := by decide +kernel
theorem dX6_setLattice_22 : decode mi_X6_setLattice.2.1 22 = .ok (.getfield 12, 3) := by decide +kernel
theorem dX6_setLattice_25 : decode mi_X6_setLattice.2.1 25 = .ok (.getfield 60, 3) := by decide +kernel
theorem dX6_setLattice_28 : decode mi_X6_setLattice.2.1 28 = .ok (.istore_n 3, 1) := by decide +kernel
theorem dX6_setLattice_29 : decode mi_X6_setLattice.2.1 29 = .ok (.aload_n 0, 1) := by decide +kernel
theorem dX6_setLattice_30 : decode mi_X6_setLattice.2.1 30 = .ok (.getfield 26, 3) := by decide +kernel
theorem dX6_setLattice_33 : decode mi_X6_setLattice.2.1 33 = .ok (.aload_n 0, 1) := by decide +kernel
theorem dX6_setLattice_34 : decode mi_X6_setLattice.2.1 34 = .ok (.getfield 12, 3) := by decide +kernel
theorem dX6_setLattice_37 : decode mi_X6_setLattice.2.1 37 = .ok (.aload_n 0, 1) := by decide +kernel
theorem dX6_setLattice_38 : decode mi_X6_setLattice.2.1 38 = .ok (.getfield 19, 3) := by decide +kernel
theorem dX6_setLattice_41 : decode mi_X6_setLattice.2.1 41 = .ok (.invokevirtual 64, 3) := by decide +kernel
theorem dX6_setLattice_44 : decode mi_X6_setLattice.2.1 44 = .ok (.aload_n 0, 1) := by decide +kernel
theorem dX6_setLattice_45 : decode mi_X6_setLattice.2.1 45 = .ok (.getfield 12, 3) := by decide +kernel
theorem dX6_setLattice_48 : decode mi_X6_setLattice.2.1 48 = .ok (.iload_n 1, 1) := by decide +kernel
theorem dX6_setLattice_49 : decode mi_X6_setLattice.2.1 49 = .ok (.iload_n 2, 1) := by decide +kernel
theorem dX6_setLattice_50 : decode mi_X6_setLattice.2.1 50 = .ok (.invokevirtual 67, 3) := by decide +kernel
theorem dX6_setLattice_53 : decode mi_X6_setLattice.2.1 53 = .ok (.aload_n 0, 1) := by decide +kernel
theorem dX6_setLattice_54 : decode mi_X6_setLattice.2.1 54 = .ok (.getfield 19, 3) := by decide +kernel
theorem dX6_setLattice_57 : decode mi_X6_setLattice.2.1 57 = .ok (.invokevirtual 71, 3) := by decide +kernel
theorem dX6_setLattice_60 : decode mi_X6_setLattice.2.1 60 = .ok (.aload_n 0, 1) := by decide +kernel
theorem dX6_setLattice_61 : decode mi_X6_setLattice.2.1 61 = .ok (.invokevirtual 57, 3) := by decide +kernel
theorem dX6_setLattice_64 : decode mi_X6_setLattice.2.1 64 = .ok (.iload_n 3, 1) := by decide +kernel
theorem dX6_setLattice_65 : decode mi_X6_setLattice.2.1 65 = .ok (.ireturn, 1) := by decide +kernel
theorem dX6_addGenerator_0 : decode mi_X6_addGenerator.2.1 0 = .ok (.aload_n 0, 1) := by decide +kernel
theorem dX6_addGenerator_1 : decode mi_X6_addGenerator.2.1 1 = .ok (.getfield 12, 3) := by decide +kernel
theorem dX6_addGenerator_4 : decode mi_X6_addGenerator.2.1 4 = .ok (.iload_n 1, 1) := by decide +kernel
theorem dX6_addGenerator_5 : decode mi_X6_addGenerator.2.1 5 = .ok (.iload_n 2, 1) := by decide +kernel
theorem dX6_addGenerator_6 : decode mi_X6_addGenerator.2.1 6 = .ok (.iload_n 3, 1) := by decide +kernel
theorem dX6_addGenerator_7 : decode mi_X6_addGenerator.2.1 7 = .ok (.invokevirtual 74, 3) := by decide +kernel
theorem dX6_addGenerator_10 : decode mi_X6_addGenerator.2.1 10 = .ok (.ifCond .ne 5, 3) := by decide +kernel
theorem dX6_addGenerator_13 : decode mi_X6_addGenerator.2.1 13 = .ok (.iconst (-1), 1) := by decide +kernel
theorem dX6_addGenerator_14 : decode mi_X6_addGenerator.2.1 14 = .ok (.ireturn, 1) := by decide +kernel
theorem dX6_addGenerator_15 : decode mi_X6_addGenerator.2.1 15 = .ok (.aload_n 0, 1) := by decide +kernel
theorem dX6_addGenerator_16 : decode mi_X6_addGenerator.2.1 16 = .ok (.getfield 19, 3) := by decide +kernel
theorem dX6_addGenerator_19 : decode mi_X6_addGenerator.2.1 19 = .ok (.invokevirtual 78, 3) := by decide +kernel
theorem dX6_addGenerator_22 : decode mi_X6_addGenerator.2.1 22 = .ok (.ifCond .eq 6, 3) := by decide +kernel
theorem dX6_addGenerator_25 : decode mi_X6_addGenerator.2.1 25 = .ok (.bipush (-2), 2) := by decide +kernel
theorem dX6_addGenerator_27 : decode mi_X6_addGenerator.2.1 27 = .ok (.ireturn, 1) := by decide +kernel
theorem dX6_addGenerator_28 : decode mi_X6_addGenerator.2.1 28 = .ok (.aload_n 0, 1) := by decide +kernel
theorem dX6_addGenerator_29 : decode mi_X6_addGenerator.2.1 29 = .ok (.getfield 26, 3) := by decide +kernel
theorem dX6_addGenerator_32 : decode mi_X6_addGenerator.2.1 32 = .ok (.aload_n 0, 1) := by decide +kernel
theorem dX6_addGenerator_33 : decode mi_X6_addGenerator.2.1 33 = .ok (.getfield 12, 3) := by decide +kernel
theorem dX6_addGenerator_36 : decode mi_X6_addGenerator.2.1 36 = .ok (.aload_n 0, 1) := by decide +kernel
theorem dX6_addGenerator_37 : decode mi_X6_addGenerator.2.1 37 = .ok (.getfield 19, 3) := by decide +kernel
theorem dX6_addGenerator_40 : decode mi_X6_addGenerator.2.1 40 = .ok (.invokevirtual 64, 3) := by decide +kernel
theorem dX6_addGenerator_43 : decode mi_X6_addGenerator.2.1 43 = .ok (.aload_n 0, 1) := by decide +kernel
theorem dX6_addGenerator_44 : decode mi_X6_addGenerator.2.1 44 = .ok (.getfield 19, 3) := by decide +kernel
theorem dX6_addGenerator_47 : decode mi_X6_addGenerator.2.1 47 = .ok (.aload_n 0, 1) := by decide +kernel
theorem dX6_addGenerator_48 : decode mi_X6_addGenerator.2.1 48 = .ok (.getfield 12, 3) := by decide +kernel
theorem dX6_addGenerator_51 : decode mi_X6_addGenerator.2.1 51 = .ok (.iload_n 1, 1) := by decide +kernel
theorem dX6_addGenerator_52 : decode mi_X6_addGenerator.2.1 52 = .ok (.iload_n 2, 1) := by decide +kernel
theorem dX6_addGenerator_53 : decode mi_X6_addGenerator.2.1 53 = .ok (.iload_n 3, 1) := by decide +kernel
theorem dX6_addGenerator_54 : decode mi_X6_addGenerator.2.1 54 = .ok (.invokevirtual 82, 3) := by decide +kernel
theorem dX6_addGenerator_57 : decode mi_X6_addGenerator.2.1 57 = .ok (.invokevirtual 86, 3) := by decide +kernel
theorem dX6_addGenerator_60 : decode mi_X6_addGenerator.2.1 60 = .ok (.aload_n 0, 1) := by decide +kernel
theorem dX6_addGenerator_61 : decode mi_X6_addGenerator.2.1 61 = .ok (.invokevirtual 57, 3) := by decide +kernel
theorem dX6_addGenerator_64 : decode mi_X6_addGenerator.2.1 64 = .ok (.aload_n 0, 1) := by decide +kernel
theorem dX6_addGenerator_65 : decode mi_X6_addGenerator.2.1 65 = .ok (.getfield 35, 3) := by decide +kernel
theorem dX6_addGenerator_68 : decode mi_X6_addGenerator.2.1 68 = .ok (.invokevirtual 90, 3) := by decide +kernel
theorem dX6_addGenerator_71 : decode mi_X6_addGenerator.2.1 71 = .ok (.ireturn, 1) := by decide +kernel
theorem dX6_removeGenerator_0 : decode mi_X6_removeGenerator.2.1 0 = .ok (.aload_n 0, 1) := by decide +kernel
theorem dX6_removeGenerator_1 : decode mi_X6_removeGenerator.2.1 1 = .ok (.getfield 19, 3) := by decide +kernel
theorem dX6_removeGenerator_4 : decode mi_X6_removeGenerator.2.1 4 = .ok (.iload_n 1, 1) := by decide +kernel
theorem dX6_removeGenerator_5 : decode mi_X6_removeGenerator.2.1 5 = .ok (.invokevirtual 94, 3) := by decide +kernel
theorem dX6_removeGenerator_8 : decode mi_X6_removeGenerator.2.1 8 = .ok (.ifCond .ne 5, 3) := by decide +kernel
theorem dX6_removeGenerator_11 : decode mi_X6_removeGenerator.2.1 11 = .ok (.iconst (-1), 1) := by decide +kernel
theorem dX6_removeGenerator_12 : decode mi_X6_removeGenerator.2.1 12 = .ok (.ireturn, 1) := by decide +kernel
theorem dX6_removeGenerator_13 : decode mi_X6_removeGenerator.2.1 13 = .ok (.aload_n 0, 1) := by decide +kernel
theorem dX6_removeGenerator_14 : decode mi_X6_removeGenerator.2.1 14 = .ok (.getfield 26, 3) := by decide +kernel
theorem dX6_removeGenerator_17 : decode mi_X6_removeGenerator.2.1 17 = .ok (.aload_n 0, 1) := by decide +kernel
theorem dX6_removeGenerator_18 : decode mi_X6_removeGenerator.2.1 18 = .ok (.getfield 12, 3) := by decide +kernel
theorem dX6_removeGenerator_21 : decode mi_X6_removeGenerator.2.1 21 = .ok (.aload_n 0, 1) := by decide +kernel
theorem dX6_removeGenerator_22 : decode mi_X6_removeGenerator.2.1 22 = .ok (.getfield 19, 3) := by decide +kernel
theorem dX6_removeGenerator_25 : decode mi_X6_removeGenerator.2.1 25 = .ok (.invokevirtual 64, 3) := by decide +kernel
theorem dX6_removeGenerator_28 : decode mi_X6_removeGenerator.2.1 28 = .ok (.aload_n 0, 1) := by decide +kernel
theorem dX6_removeGenerator_29 : decode mi_X6_removeGenerator.2.1 29 = .ok (.getfield 19, 3) := by decide +kernel
theorem dX6_removeGenerator_32 : decode mi_X6_removeGenerator.2.1 32 = .ok (.iload_n 1, 1) := by decide +kernel
theorem dX6_removeGenerator_33 : decode mi_X6_removeGenerator.2.1 33 = .ok (.invokevirtual 98, 3) := by decide +kernel
theorem dX6_removeGenerator_36 : decode mi_X6_removeGenerator.2.1 36 = .ok (.aload_n 0, 1) := by decide +kernel
theorem dX6_removeGenerator_37 : decode mi_X6_removeGenerator.2.1 37 = .ok (.invokevirtual 57, 3) := by decide +kernel
theorem dX6_removeGenerator_40 : decode mi_X6_removeGenerator.2.1 40 = .ok (.aload_n 0, 1) := by decide +kernel
theorem dX6_removeGenerator_41 : decode mi_X6_removeGenerator.2.1 41 = .ok (.getfield 35, 3) := by decide +kernel
theorem dX6_removeGenerator_44 : decode mi_X6_removeGenerator.2.1 44 = .ok (.invokevirtual 90, 3) := by decide +kernel
theorem dX6_removeGenerator_47 : decode mi_X6_removeGenerator.2.1 47 = .ok (.ireturn, 1) := by decide +kernel
theorem dX6_setGenerator_0 : decode mi_X6_setGenerator.2.1 0 = .ok (.aload_n 0, 1) := by decide +kernel
theorem dX6_setGenerator_1 : decode mi_X6_setGenerator.2.1 1 = .ok (.getfield 19, 3) := by decide +kernel
theorem dX6_setGenerator_4 : decode mi_X6_setGenerator.2.1 4 = .ok (.iload_n 1, 1) := by decide +kernel
theorem dX6_setGenerator_5 : decode mi_X6_setGenerator.2.1 5 = .ok (.invokevirtual 94, 3) := by decide +kernel
theorem dX6_setGenerator_8 : decode mi_X6_setGenerator.2.1 8 = .ok (.ifCond .eq 17, 3) := by decide +kernel
theorem dX6_setGenerator_11 : decode mi_X6_setGenerator.2.1 11 = .ok (.aload_n 0, 1) := by decide +kernel
theorem dX6_setGenerator_12 : decode mi_X6_setGenerator.2.1 12 = .ok (.getfield 12, 3) := by decide +kernel
theorem dX6_setGenerator_15 : decode mi_X6_setGenerator.2.1 15 = .ok (.iload_n 2, 1) := by decide +kernel
theorem dX6_setGenerator_16 : decode mi_X6_setGenerator.2.1 16 = .ok (.iload_n 3, 1) := by decide +kernel
theorem dX6_setGenerator_17 : decode mi_X6_setGenerator.2.1 17 = .ok (.iload 4, 2) := by decide +kernel
theorem dX6_setGenerator_19 : decode mi_X6_setGenerator.2.1 19 = .ok (.invokevirtual 74, 3) := by decide +kernel
theorem dX6_setGenerator_22 : decode mi_X6_setGenerator.2.1 22 = .ok (.ifCond .ne 5, 3) := by decide +kernel
theorem dX6_setGenerator_25 : decode mi_X6_setGenerator.2.1 25 = .ok (.iconst (-1), 1) := by decide +kernel
theorem dX6_setGenerator_26 : decode mi_X6_setGenerator.2.1 26 = .ok (.ireturn, 1) := by decide +kernel
theorem dX6_setGenerator_27 : decode mi_X6_setGenerator.2.1 27 = .ok (.aload_n 0, 1) := by decide +kernel
theorem dX6_setGenerator_28 : decode mi_X6_setGenerator.2.1 28 = .ok (.getfield 19, 3) := by decide +kernel
theorem dX6_setGenerator_31 : decode mi_X6_setGenerator.2.1 31 = .ok (.iload_n 1, 1) := by decide +kernel
theorem dX6_setGenerator_32 : decode mi_X6_setGenerator.2.1 32 = .ok (.invokevirtual 101, 3) := by decide +kernel
theorem dX6_setGenerator_35 : decode mi_X6_setGenerator.2.1 35 = .ok (.istore 5, 2) := by decide +kernel
theorem dX6_setGenerator_37 : decode mi_X6_setGenerator.2.1 37 = .ok (.aload_n 0, 1) := by decide +kernel
theorem dX6_setGenerator_38 : decode mi_X6_setGenerator.2.1 38 = .ok (.getfield 26, 3) := by decide +kernel
theorem dX6_setGenerator_41 : decode mi_X6_setGenerator.2.1 41 = .ok (.aload_n 0, 1) := by decide +kernel
theorem dX6_setGenerator_42 : decode mi_X6_setGenerator.2.1 42 = .ok (.getfield 12, 3) := by decide +kernel
theorem dX6_setGenerator_45 : decode mi_X6_setGenerator.2.1 45 = .ok (.aload_n 0, 1) := by decide +kernel
theorem dX6_setGenerator_46 : decode mi_X6_setGenerator.2.1 46 = .ok (.getfield 19, 3) := by decide +kernel
theorem dX6_setGenerator_49 : decode mi_X6_setGenerator.2.1 49 = .ok (.invokevirtual 64, 3) := by decide +kernel
theorem dX6_setGenerator_52 : decode mi_X6_setGenerator.2.1 52 = .ok (.aload_n 0, 1) := by decide +kernel
theorem dX6_setGenerator_53 : decode mi_X6_setGenerator.2.1 53 = .ok (.getfield 19, 3) := by decide +kernel
theorem dX6_setGenerator_56 : decode mi_X6_setGenerator.2.1 56 = .ok (.iload_n 1, 1) := by decide +kernel
theorem dX6_setGenerator_57 : decode mi_X6_setGenerator.2.1 57 = .ok (.aload_n 0, 1) := by decide +kernel
theorem dX6_setGenerator_58 : decode mi_X6_setGenerator.2.1 58 = .ok (.getfield 12, 3) := by decide +kernel
theorem dX6_setGenerator_61 : decode mi_X6_setGenerator.2.1 61 = .ok (.iload_n 2, 1) := by decide +kernel
theorem dX6_setGenerator_62 : decode mi_X6_setGenerator.2.1 62 = .ok (.iload_n 3, 1) := by decide +kernel
theorem dX6_setGenerator_63 : decode mi_X6_setGenerator.2.1 63 = .ok (.iload 4, 2) := by decide +kernel
theorem dX6_setGenerator_65 : decode mi_X6_setGenerator.2.1 65 = .ok (.invokevirtual 82, 3) := by decide +kernel
theorem dX6_setGenerator_68 : decode mi_X6_setGenerator.2.1 68 = .ok (.invokevirtual 105, 3) := by decide +kernel
theorem dX6_setGenerator_71 : decode mi_X6_setGenerator.2.1 71 = .ok (.aload_n 0, 1) := by decide +kernel
theorem dX6_setGenerator_72 : decode mi_X6_setGenerator.2.1 72 = .ok (.invokevirtual 57, 3) := by decide +kernel
theorem dX6_setGenerator_75 : decode mi_X6_setGenerator.2.1 75 = .ok (.iload 5, 2) := by decide +kernel
theorem dX6_setGenerator_77 : decode mi_X6_setGenerator.2.1 77 = .ok (.ireturn, 1) := by decide +kernel
theorem dX6_undo_0 : decode mi_X6_undo.2.1 0 = .ok (.aload_n 0, 1) := by decide +kernel
theorem dX6_undo_1 : decode mi_X6_undo.2.1 1 = .ok (.getfield 26, 3) := by decide +kernel
theorem dX6_undo_4 : decode mi_X6_undo.2.1 4 = .ok (.invokevirtual 108, 3) := by decide +kernel
theorem dX6_undo_7 : decode mi_X6_undo.2.1 7 = .ok (.ifCond .eq 6, 3) := by decide +kernel
theorem dX6_undo_10 : decode mi_X6_undo.2.1 10 = .ok (.bipush (-3), 2) := by decide +kernel
theorem dX6_undo_12 : decode mi_X6_undo.2.1 12 = .ok (.ireturn, 1) := by decide +kernel
theorem dX6_undo_13 : decode mi_X6_undo.2.1 13 = .ok (.aload_n 0, 1) := by decide +kernel
theorem dX6_undo_14 : decode mi_X6_undo.2.1 14 = .ok (.getfield 26, 3) := by decide +kernel
theorem dX6_undo_17 : decode mi_X6_undo.2.1 17 = .ok (.aload_n 0, 1) := by decide +kernel
theorem dX6_undo_18 : decode mi_X6_undo.2.1 18 = .ok (.getfield 12, 3) := by decide +kernel
theorem dX6_undo_21 : decode mi_X6_undo.2.1 21 = .ok (.aload_n 0, 1) := by decide +kernel
theorem dX6_undo_22 : decode mi_X6_undo.2.1 22 = .ok (.getfield 19, 3) := by decide +kernel
theorem dX6_undo_25 : decode mi_X6_undo.2.1 25 = .ok (.invokevirtual 111, 3) := by decide +kernel
theorem dX6_undo_28 : decode mi_X6_undo.2.1 28 = .ok (.aload_n 0, 1) := by decide +kernel
theorem dX6_undo_29 : decode mi_X6_undo.2.1 29 = .ok (.invokevirtual 57, 3) := by decide +kernel
theorem dX6_undo_32 : decode mi_X6_undo.2.1 32 = .ok (.aload_n 0, 1) := by decide +kernel
theorem dX6_undo_33 : decode mi_X6_undo.2.1 33 = .ok (.getfield 26, 3) := by decide +kernel
theorem dX6_undo_36 : decode mi_X6_undo.2.1 36 = .ok (.getfield 114, 3) := by decide +kernel
theorem dX6_undo_39 : decode mi_X6_undo.2.1 39 = .ok (.ireturn, 1) := by decide +kernel
theorem dX6_generator_0 : decode mi_X6_generator.2.1 0 = .ok (.iload_n 1, 1) := by decide +kernel
theorem dX6_generator_1 : decode mi_X6_generator.2.1 1 = .ok (.ifCond .ge 5, 3) := by decide +kernel
theorem dX6_generator_4 : decode mi_X6_generator.2.1 4 = .ok (.iconst (-1), 1) := by decide +kernel
theorem dX6_generator_5 : decode mi_X6_generator.2.1 5 = .ok (.ireturn, 1) := by decide +kernel
theorem dX6_generator_6 : decode mi_X6_generator.2.1 6 = .ok (.aload_n 0, 1) := by decide +kernel
theorem dX6_generator_7 : decode mi_X6_generator.2.1 7 = .ok (.getfield 19, 3) := by decide +kernel
theorem dX6_generator_10 : decode mi_X6_generator.2.1 10 = .ok (.iload_n 1, 1) := by decide +kernel
theorem dX6_generator_11 : decode mi_X6_generator.2.1 11 = .ok (.invokevirtual 94, 3) := by decide +kernel
theorem dX6_generator_14 : decode mi_X6_generator.2.1 14 = .ok (.ifCond .eq 14, 3) := by decide +kernel
theorem dX6_generator_17 : decode mi_X6_generator.2.1 17 = .ok (.aload_n 0, 1) := by decide +kernel
theorem dX6_generator_18 : decode mi_X6_generator.2.1 18 = .ok (.getfield 19, 3) := by decide +kernel
theorem dX6_generator_21 : decode mi_X6_generator.2.1 21 = .ok (.iload_n 1, 1) := by decide +kernel
theorem dX6_generator_22 : decode mi_X6_generator.2.1 22 = .ok (.invokevirtual 101, 3) := by decide +kernel
theorem dX6_generator_25 : decode mi_X6_generator.2.1 25 = .ok (.goto 5, 3) := by decide +kernel
theorem dX6_generator_28 : decode mi_X6_generator.2.1 28 = .ok (.bipush (-3), 2) := by decide +kernel
theorem dX6_generator_30 : decode mi_X6_generator.2.1 30 = .ok (.ireturn, 1) := by decide +kernel
theorem dX6_order_0 : decode mi_X6_order.2.1 0 = .ok (.aload_n 0, 1) := by decide +kernel
theorem dX6_order_1 : decode mi_X6_order.2.1 1 = .ok (.getfield 35, 3) := by decide +kernel
theorem dX6_order_4 : decode mi_X6_order.2.1 4 = .ok (.invokevirtual 90, 3) := by decide +kernel
theorem dX6_order_7 : decode mi_X6_order.2.1 7 = .ok (.ireturn, 1) := by decide +kernel
theorem dX6_element_0 : decode mi_X6_element.2.1 0 = .ok (.iload_n 1, 1) := by decide +kernel
theorem dX6_element_1 : decode mi_X6_element.2.1 1 = .ok (.ifCond .ge 5, 3) := by decide +kernel
theorem dX6_element_4 : decode mi_X6_element.2.1 4 = .ok (.iconst (-1), 1) := by decide +kernel
theorem dX6_element_5 : decode mi_X6_element.2.1 5 = .ok (.ireturn, 1) := by decide +kernel
theorem dX6_element_6 : decode mi_X6_element.2.1 6 = .ok (.iload_n 1, 1) := by decide +kernel
theorem dX6_element_7 : decode mi_X6_element.2.1 7 = .ok (.aload_n 0, 1) := by decide +kernel
theorem dX6_element_8 : decode mi_X6_element.2.1 8 = .ok (.getfield 35, 3) := by decide +kernel
theorem dX6_element_11 : decode mi_X6_element.2.1 11 = .ok (.invokevirtual 90, 3) := by decide +kernel
theorem dX6_element_14 : decode mi_X6_element.2.1 14 = .ok (.if_icmp .ge 14, 3) := by decide +kernel
theorem dX6_element_17 : decode mi_X6_element.2.1 17 = .ok (.aload_n 0, 1) := by decide +kernel
theorem dX6_element_18 : decode mi_X6_element.2.1 18 = .ok (.getfield 35, 3) := by decide +kernel
theorem dX6_element_21 : decode mi_X6_element.2.1 21 = .ok (.iload_n 1, 1) := by decide +kernel
theorem dX6_element_22 : decode mi_X6_element.2.1 22 = .ok (.invokevirtual 117, 3) := by decide +kernel
theorem dX6_element_25 : decode mi_X6_element.2.1 25 = .ok (.goto 5, 3) := by decide +kernel
theorem dX6_element_28 : decode mi_X6_element.2.1 28 = .ok (.bipush (-3), 2) := by decide +kernel
theorem dX6_element_30 : decode mi_X6_element.2.1 30 = .ok (.ireturn, 1) := by decide +kernel
theorem dX6_contains_0 : decode mi_X6_contains.2.1 0 = .ok (.aload_n 0, 1) := by decide +kernel
theorem dX6_contains_1 : decode mi_X6_contains.2.1 1 = .ok (.getfield 12, 3) := by decide +kernel
theorem dX6_contains_4 : decode mi_X6_contains.2.1 4 = .ok (.iload_n 1, 1) := by decide +kernel
theorem dX6_contains_5 : decode mi_X6_contains.2.1 5 = .ok (.invokevirtual 120, 3) := by decide +kernel
theorem dX6_contains_8 : decode mi_X6_contains.2.1 8 = .ok (.ifCond .ne 5, 3) := by decide +kernel
theorem dX6_contains_11 : decode mi_X6_contains.2.1 11 = .ok (.iconst (-1), 1) := by decide +kernel
theorem dX6_contains_12 : decode mi_X6_contains.2.1 12 = .ok (.ireturn, 1) := by decide +kernel
theorem dX6_contains_13 : decode mi_X6_contains.2.1 13 = .ok (.aload_n 0, 1) := by decide +kernel
theorem dX6_contains_14 : decode mi_X6_contains.2.1 14 = .ok (.getfield 35, 3) := by decide +kernel
theorem dX6_contains_17 : decode mi_X6_contains.2.1 17 = .ok (.iload_n 1, 1) := by decide +kernel
theorem dX6_contains_18 : decode mi_X6_contains.2.1 18 = .ok (.invokevirtual 123, 3) := by decide +kernel
theorem dX6_contains_21 : decode mi_X6_contains.2.1 21 = .ok (.invokestatic 124, 3) := by decide +kernel
theorem dX6_contains_24 : decode mi_X6_contains.2.1 24 = .ok (.ireturn, 1) := by decide +kernel
theorem dX6_product_0 : decode mi_X6_product.2.1 0 = .ok (.aload_n 0, 1) := by decide +kernel
theorem dX6_product_1 : decode mi_X6_product.2.1 1 = .ok (.getfield 12, 3) := by decide +kernel
theorem dX6_product_4 : decode mi_X6_product.2.1 4 = .ok (.iload_n 1, 1) := by decide +kernel
theorem dX6_product_5 : decode mi_X6_product.2.1 5 = .ok (.invokevirtual 120, 3) := by decide +kernel
theorem dX6_product_8 : decode mi_X6_product.2.1 8 = .ok (.ifCond .eq 14, 3) := by decide +kernel
theorem dX6_product_11 : decode mi_X6_product.2.1 11 = .ok (.aload_n 0, 1) := by decide +kernel
theorem dX6_product_12 : decode mi_X6_product.2.1 12 = .ok (.getfield 12, 3) := by decide +kernel
theorem dX6_product_15 : decode mi_X6_product.2.1 15 = .ok (.iload_n 2, 1) := by decide +kernel
theorem dX6_product_16 : decode mi_X6_product.2.1 16 = .ok (.invokevirtual 120, 3) := by decide +kernel
theorem dX6_product_19 : decode mi_X6_product.2.1 19 = .ok (.ifCond .ne 5, 3) := by decide +kernel
theorem dX6_product_22 : decode mi_X6_product.2.1 22 = .ok (.iconst (-1), 1) := by decide +kernel
theorem dX6_product_23 : decode mi_X6_product.2.1 23 = .ok (.ireturn, 1) := by decide +kernel
theorem dX6_product_24 : decode mi_X6_product.2.1 24 = .ok (.aload_n 0, 1) := by decide +kernel
theorem dX6_product_25 : decode mi_X6_product.2.1 25 = .ok (.getfield 12, 3) := by decide +kernel
theorem dX6_product_28 : decode mi_X6_product.2.1 28 = .ok (.iload_n 1, 1) := by decide +kernel
theorem dX6_product_29 : decode mi_X6_product.2.1 29 = .ok (.iload_n 2, 1) := by decide +kernel
theorem dX6_product_30 : decode mi_X6_product.2.1 30 = .ok (.invokevirtual 128, 3) := by decide +kernel
theorem dX6_product_33 : decode mi_X6_product.2.1 33 = .ok (.ireturn, 1) := by decide +kernel
theorem dX6_orderOf_0 : decode mi_X6_orderOf.2.1 0 = .ok (.aload_n 0, 1) := by decide +kernel
theorem dX6_orderOf_1 : decode mi_X6_orderOf.2.1 1 = .ok (.getfield 12, 3) := by decide +kernel
theorem dX6_orderOf_4 : decode mi_X6_orderOf.2.1 4 = .ok (.iload_n 1, 1) := by decide +kernel
theorem dX6_orderOf_5 : decode mi_X6_orderOf.2.1 5 = .ok (.invokevirtual 120, 3) := by decide +kernel
theorem dX6_orderOf_8 : decode mi_X6_orderOf.2.1 8 = .ok (.ifCond .ne 5, 3) := by decide +kernel
theorem dX6_orderOf_11 : decode mi_X6_orderOf.2.1 11 = .ok (.iconst (-1), 1) := by decide +kernel
theorem dX6_orderOf_12 : decode mi_X6_orderOf.2.1 12 = .ok (.ireturn, 1) := by decide +kernel
theorem dX6_orderOf_13 : decode mi_X6_orderOf.2.1 13 = .ok (.aload_n 0, 1) := by decide +kernel
theorem dX6_orderOf_14 : decode mi_X6_orderOf.2.1 14 = .ok (.getfield 12, 3) := by decide +kernel
theorem dX6_orderOf_17 : decode mi_X6_orderOf.2.1 17 = .ok (.iload_n 1, 1) := by decide +kernel
theorem dX6_orderOf_18 : decode mi_X6_orderOf.2.1 18 = .ok (.invokevirtual 132, 3) := by decide +kernel
theorem dX6_orderOf_21 : decode mi_X6_orderOf.2.1 21 = .ok (.ireturn, 1) := by decide +kernel
theorem dX6_kindOf_0 : decode mi_X6_kindOf.2.1 0 = .ok (.aload_n 0, 1) := by decide +kernel
theorem dX6_kindOf_1 : decode mi_X6_kindOf.2.1 1 = .ok (.getfield 12, 3) := by decide +kernel
theorem dX6_kindOf_4 : decode mi_X6_kindOf.2.1 4 = .ok (.iload_n 1, 1) := by decide +kernel
theorem dX6_kindOf_5 : decode mi_X6_kindOf.2.1 5 = .ok (.invokevirtual 120, 3) := by decide +kernel
theorem dX6_kindOf_8 : decode mi_X6_kindOf.2.1 8 = .ok (.ifCond .ne 5, 3) := by decide +kernel
theorem dX6_kindOf_11 : decode mi_X6_kindOf.2.1 11 = .ok (.iconst (-1), 1) := by decide +kernel
theorem dX6_kindOf_12 : decode mi_X6_kindOf.2.1 12 = .ok (.ireturn, 1) := by decide +kernel
theorem dX6_kindOf_13 : decode mi_X6_kindOf.2.1 13 = .ok (.aload_n 0, 1) := by decide +kernel
theorem dX6_kindOf_14 : decode mi_X6_kindOf.2.1 14 = .ok (.getfield 12, 3) := by decide +kernel
theorem dX6_kindOf_17 : decode mi_X6_kindOf.2.1 17 = .ok (.iload_n 1, 1) := by decide +kernel
theorem dX6_kindOf_18 : decode mi_X6_kindOf.2.1 18 = .ok (.invokevirtual 135, 3) := by decide +kernel
theorem dX6_kindOf_21 : decode mi_X6_kindOf.2.1 21 = .ok (.ireturn, 1) := by decide +kernel
theorem dX6_count_0 : decode mi_X6_count.2.1 0 = .ok (.iload_n 1, 1) := by decide +kernel
theorem dX6_count_1 : decode mi_X6_count.2.1 1 = .ok (.ifCond .lt 8, 3) := by decide +kernel
theorem dX6_count_4 : decode mi_X6_count.2.1 4 = .ok (.iload_n 1, 1) := by decide +kernel
theorem dX6_count_5 : decode mi_X6_count.2.1 5 = .ok (.iconst 4, 1) := by decide +kernel
theorem dX6_count_6 : decode mi_X6_count.2.1 6 = .ok (.if_icmp .lt 5, 3) := by decide +kernel
theorem dX6_count_9 : decode mi_X6_count.2.1 9 = .ok (.iconst (-1), 1) := by decide +kernel
theorem dX6_count_10 : decode mi_X6_count.2.1 10 = .ok (.ireturn, 1) := by decide +kernel
theorem dX6_count_11 : decode mi_X6_count.2.1 11 = .ok (.aload_n 0, 1) := by decide +kernel
theorem dX6_count_12 : decode mi_X6_count.2.1 12 = .ok (.getfield 44, 3) := by decide +kernel
theorem dX6_count_15 : decode mi_X6_count.2.1 15 = .ok (.iload_n 1, 1) := by decide +kernel
theorem dX6_count_16 : decode mi_X6_count.2.1 16 = .ok (.invokevirtual 138, 3) := by decide +kernel
theorem dX6_count_19 : decode mi_X6_count.2.1 19 = .ok (.ireturn, 1) := by decide +kernel
theorem dX6_isAbelian_0 : decode mi_X6_isAbelian.2.1 0 = .ok (.aload_n 0, 1) := by decide +kernel
theorem dX6_isAbelian_1 : decode mi_X6_isAbelian.2.1 1 = .ok (.getfield 35, 3) := by decide +kernel
theorem dX6_isAbelian_4 : decode mi_X6_isAbelian.2.1 4 = .ok (.invokevirtual 141, 3) := by decide +kernel
theorem dX6_isAbelian_7 : decode mi_X6_isAbelian.2.1 7 = .ok (.invokestatic 124, 3) := by decide +kernel
theorem dX6_isAbelian_10 : decode mi_X6_isAbelian.2.1 10 = .ok (.ireturn, 1) := by decide +kernel
theorem dX6_conjugacyClasses_0 : decode mi_X6_conjugacyClasses.2.1 0 = .ok (.aload_n 0, 1) := by decide +kernel
theorem dX6_conjugacyClasses_1 : decode mi_X6_conjugacyClasses.2.1 1 = .ok (.getfield 35, 3) := by decide +kernel
theorem dX6_conjugacyClasses_4 : decode mi_X6_conjugacyClasses.2.1 4 = .ok (.invokevirtual 144, 3) := by decide +kernel
theorem dX6_conjugacyClasses_7 : decode mi_X6_conjugacyClasses.2.1 7 = .ok (.ireturn, 1) := by decide +kernel
theorem dX6_linearParts_0 : decode mi_X6_linearParts.2.1 0 = .ok (.aload_n 0, 1) := by decide +kernel
theorem dX6_linearParts_1 : decode mi_X6_linearParts.2.1 1 = .ok (.getfield 44, 3) := by decide +kernel
theorem dX6_linearParts_4 : decode mi_X6_linearParts.2.1 4 = .ok (.invokevirtual 147, 3) := by decide +kernel
theorem dX6_linearParts_7 : decode mi_X6_linearParts.2.1 7 = .ok (.ireturn, 1) := by decide +kernel
theorem dX6_rotationOrder_0 : decode mi_X6_rotationOrder.2.1 0 = .ok (.aload_n 0, 1) := by decide +kernel
theorem dX6_rotationOrder_1 : decode mi_X6_rotationOrder.2.1 1 = .ok (.getfield 44, 3) := by decide +kernel
theorem dX6_rotationOrder_4 : decode mi_X6_rotationOrder.2.1 4 = .ok (.invokevirtual 150, 3) := by decide +kernel
theorem dX6_rotationOrder_7 : decode mi_X6_rotationOrder.2.1 7 = .ok (.ireturn, 1) := by decide +kernel
theorem dX6_mirrorDirections_0 : decode mi_X6_mirrorDirections.2.1 0 = .ok (.aload_n 0, 1) := by decide +kernel
theorem dX6_mirrorDirections_1 : decode mi_X6_mirrorDirections.2.1 1 = .ok (.getfield 44, 3) := by decide +kernel
theorem dX6_mirrorDirections_4 : decode mi_X6_mirrorDirections.2.1 4 = .ok (.invokevirtual 153, 3) := by decide +kernel
theorem dX6_mirrorDirections_7 : decode mi_X6_mirrorDirections.2.1 7 = .ok (.ireturn, 1) := by decide +kernel
theorem dX6_isCentered_0 : decode mi_X6_isCentered.2.1 0 = .ok (.aload_n 0, 1) := by decide +kernel
theorem dX6_isCentered_1 : decode mi_X6_isCentered.2.1 1 = .ok (.getfield 44, 3) := by decide +kernel
theorem dX6_isCentered_4 : decode mi_X6_isCentered.2.1 4 = .ok (.invokevirtual 156, 3) := by decide +kernel
theorem dX6_isCentered_7 : decode mi_X6_isCentered.2.1 7 = .ok (.invokestatic 124, 3) := by decide +kernel
theorem dX6_isCentered_10 : decode mi_X6_isCentered.2.1 10 = .ok (.ireturn, 1) := by decide +kernel
theorem dX6_type_0 : decode mi_X6_type.2.1 0 = .ok (.aload_n 0, 1) := by decide +kernel
theorem dX6_type_1 : decode mi_X6_type.2.1 1 = .ok (.getfield 44, 3) := by decide +kernel
theorem dX6_type_4 : decode mi_X6_type.2.1 4 = .ok (.invokevirtual 159, 3) := by decide +kernel
theorem dX6_type_7 : decode mi_X6_type.2.1 7 = .ok (.ireturn, 1) := by decide +kernel
theorem dX6_orbitSize_0 : decode mi_X6_orbitSize.2.1 0 = .ok (.aload_n 0, 1) := by decide +kernel
theorem dX6_orbitSize_1 : decode mi_X6_orbitSize.2.1 1 = .ok (.getfield 12, 3) := by decide +kernel
theorem dX6_orbitSize_4 : decode mi_X6_orbitSize.2.1 4 = .ok (.iload_n 1, 1) := by decide +kernel
theorem dX6_orbitSize_5 : decode mi_X6_orbitSize.2.1 5 = .ok (.iload_n 2, 1) := by decide +kernel
theorem dX6_orbitSize_6 : decode mi_X6_orbitSize.2.1 6 = .ok (.invokevirtual 162, 3) := by decide +kernel
theorem dX6_orbitSize_9 : decode mi_X6_orbitSize.2.1 9 = .ok (.ifCond .ne 5, 3) := by decide +kernel
theorem dX6_orbitSize_12 : decode mi_X6_orbitSize.2.1 12 = .ok (.iconst (-1), 1) := by decide +kernel
theorem dX6_orbitSize_13 : decode mi_X6_orbitSize.2.1 13 = .ok (.ireturn, 1) := by decide +kernel
theorem dX6_orbitSize_14 : decode mi_X6_orbitSize.2.1 14 = .ok (.aload_n 0, 1) := by decide +kernel
theorem dX6_orbitSize_15 : decode mi_X6_orbitSize.2.1 15 = .ok (.getfield 53, 3) := by decide +kernel
theorem dX6_orbitSize_18 : decode mi_X6_orbitSize.2.1 18 = .ok (.aload_n 0, 1) := by decide +kernel
theorem dX6_orbitSize_19 : decode mi_X6_orbitSize.2.1 19 = .ok (.getfield 12, 3) := by decide +kernel
theorem dX6_orbitSize_22 : decode mi_X6_orbitSize.2.1 22 = .ok (.iload_n 1, 1) := by decide +kernel
theorem dX6_orbitSize_23 : decode mi_X6_orbitSize.2.1 23 = .ok (.iload_n 2, 1) := by decide +kernel
theorem dX6_orbitSize_24 : decode mi_X6_orbitSize.2.1 24 = .ok (.invokevirtual 166, 3) := by decide +kernel
theorem dX6_orbitSize_27 : decode mi_X6_orbitSize.2.1 27 = .ok (.invokevirtual 169, 3) := by decide +kernel
theorem dX6_orbitSize_30 : decode mi_X6_orbitSize.2.1 30 = .ok (.ireturn, 1) := by decide +kernel
theorem dX6_orbitFirst_0 : decode mi_X6_orbitFirst.2.1 0 = .ok (.aload_n 0, 1) := by decide +kernel
theorem dX6_orbitFirst_1 : decode mi_X6_orbitFirst.2.1 1 = .ok (.getfield 12, 3) := by decide +kernel
theorem dX6_orbitFirst_4 : decode mi_X6_orbitFirst.2.1 4 = .ok (.iload_n 1, 1) := by decide +kernel
theorem dX6_orbitFirst_5 : decode mi_X6_orbitFirst.2.1 5 = .ok (.iload_n 2, 1) := by decide +kernel
theorem dX6_orbitFirst_6 : decode mi_X6_orbitFirst.2.1 6 = .ok (.invokevirtual 162, 3) := by decide +kernel
theorem dX6_orbitFirst_9 : decode mi_X6_orbitFirst.2.1 9 = .ok (.ifCond .ne 5, 3) := by decide +kernel
theorem dX6_orbitFirst_12 : decode mi_X6_orbitFirst.2.1 12 = .ok (.iconst (-1), 1) := by decide +kernel
theorem dX6_orbitFirst_13 : decode mi_X6_orbitFirst.2.1 13 = .ok (.ireturn, 1) := by decide +kernel
theorem dX6_orbitFirst_14 : decode mi_X6_orbitFirst.2.1 14 = .ok (.aload_n 0, 1) := by decide +kernel
theorem dX6_orbitFirst_15 : decode mi_X6_orbitFirst.2.1 15 = .ok (.getfield 53, 3) := by decide +kernel
theorem dX6_orbitFirst_18 : decode mi_X6_orbitFirst.2.1 18 = .ok (.aload_n 0, 1) := by decide +kernel
theorem dX6_orbitFirst_19 : decode mi_X6_orbitFirst.2.1 19 = .ok (.getfield 12, 3) := by decide +kernel
theorem dX6_orbitFirst_22 : decode mi_X6_orbitFirst.2.1 22 = .ok (.iload_n 1, 1) := by decide +kernel
theorem dX6_orbitFirst_23 : decode mi_X6_orbitFirst.2.1 23 = .ok (.iload_n 2, 1) := by decide +kernel
theorem dX6_orbitFirst_24 : decode mi_X6_orbitFirst.2.1 24 = .ok (.invokevirtual 166, 3) := by decide +kernel
theorem dX6_orbitFirst_27 : decode mi_X6_orbitFirst.2.1 27 = .ok (.invokevirtual 172, 3) := by decide +kernel
theorem dX6_orbitFirst_30 : decode mi_X6_orbitFirst.2.1 30 = .ok (.ireturn, 1) := by decide +kernel
theorem dX6_stabilizerOrder_0 : decode mi_X6_stabilizerOrder.2.1 0 = .ok (.aload_n 0, 1) := by decide +kernel
theorem dX6_stabilizerOrder_1 : decode mi_X6_stabilizerOrder.2.1 1 = .ok (.getfield 12, 3) := by decide +kernel
theorem dX6_stabilizerOrder_4 : decode mi_X6_stabilizerOrder.2.1 4 = .ok (.iload_n 1, 1) := by decide +kernel
theorem dX6_stabilizerOrder_5 : decode mi_X6_stabilizerOrder.2.1 5 = .ok (.iload_n 2, 1) := by decide +kernel
theorem dX6_stabilizerOrder_6 : decode mi_X6_stabilizerOrder.2.1 6 = .ok (.invokevirtual 162, 3) := by decide +kernel
theorem dX6_stabilizerOrder_9 : decode mi_X6_stabilizerOrder.2.1 9 = .ok (.ifCond .ne 5, 3) := by decide +kernel
theorem dX6_stabilizerOrder_12 : decode mi_X6_stabilizerOrder.2.1 12 = .ok (.iconst (-1), 1) := by decide +kernel
theorem dX6_stabilizerOrder_13 : decode mi_X6_stabilizerOrder.2.1 13 = .ok (.ireturn, 1) := by decide +kernel
theorem dX6_stabilizerOrder_14 : decode mi_X6_stabilizerOrder.2.1 14 = .ok (.aload_n 0, 1) := by decide +kernel
theorem dX6_stabilizerOrder_15 : decode mi_X6_stabilizerOrder.2.1 15 = .ok (.getfield 53, 3) := by decide +kernel
theorem dX6_stabilizerOrder_18 : decode mi_X6_stabilizerOrder.2.1 18 = .ok (.aload_n 0, 1) := by decide +kernel
theorem dX6_stabilizerOrder_19 : decode mi_X6_stabilizerOrder.2.1 19 = .ok (.getfield 12, 3) := by decide +kernel
theorem dX6_stabilizerOrder_22 : decode mi_X6_stabilizerOrder.2.1 22 = .ok (.iload_n 1, 1) := by decide +kernel
theorem dX6_stabilizerOrder_23 : decode mi_X6_stabilizerOrder.2.1 23 = .ok (.iload_n 2, 1) := by decide +kernel
theorem dX6_stabilizerOrder_24 : decode mi_X6_stabilizerOrder.2.1 24 = .ok (.invokevirtual 166, 3) := by decide +kernel
theorem dX6_stabilizerOrder_27 : decode mi_X6_stabilizerOrder.2.1 27 = .ok (.invokevirtual 175, 3) := by decide +kernel
theorem dX6_stabilizerOrder_30 : decode mi_X6_stabilizerOrder.2.1 30 = .ok (.ireturn, 1) := by decide +kernel
theorem dX6_orbitCount_0 : decode mi_X6_orbitCount.2.1 0 = .ok (.aload_n 0, 1) := by decide +kernel
theorem dX6_orbitCount_1 : decode mi_X6_orbitCount.2.1 1 = .ok (.getfield 53, 3) := by decide +kernel
theorem dX6_orbitCount_4 : decode mi_X6_orbitCount.2.1 4 = .ok (.invokevirtual 178, 3) := by decide +kernel
theorem dX6_orbitCount_7 : decode mi_X6_orbitCount.2.1 7 = .ok (.ireturn, 1) := by decide +kernel
theorem dX6_isSymmorphic_0 : decode mi_X6_isSymmorphic.2.1 0 = .ok (.aload_n 0, 1) := by decide +kernel
theorem dX6_isSymmorphic_1 : decode mi_X6_isSymmorphic.2.1 1 = .ok (.getfield 53, 3) := by decide +kernel
theorem dX6_isSymmorphic_4 : decode mi_X6_isSymmorphic.2.1 4 = .ok (.aload_n 0, 1) := by decide +kernel
