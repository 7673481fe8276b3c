theorem d_Long_readImmediate_67 : decode b_Long_readImmediate 67 = .ok (.iload 4, 2) := by decide +kernel
theorem d_Long_readImmediate_69 : decode b_Long_readImmediate 69 = .ok (.invokestatic 27, 3) := by decide +kernel
theorem d_Long_readImmediate_72 : decode b_Long_readImmediate 72 = .ok (.iload_n 2, 1) := by decide +kernel
theorem d_Long_readImmediate_73 : decode b_Long_readImmediate 73 = .ok (.iload_n 3, 1) := by decide +kernel
theorem d_Long_readImmediate_74 : decode b_Long_readImmediate 74 = .ok (.iconst 0, 1) := by decide +kernel
theorem d_Long_readImmediate_75 : decode b_Long_readImmediate 75 = .ok (.iload_n 0, 1) := by decide +kernel
theorem d_Long_readImmediate_76 : decode b_Long_readImmediate 76 = .ok (.bipush 20, 2) := by decide +kernel
theorem d_Long_readImmediate_78 : decode b_Long_readImmediate 78 = .ok (.ishr, 1) := by decide +kernel
theorem d_Long_readImmediate_79 : decode b_Long_readImmediate 79 = .ok (.invokevirtual 13, 3) := by decide +kernel
theorem d_Long_readImmediate_82 : decode b_Long_readImmediate 82 = .ok (.return_, 1) := by decide +kernel
theorem d_Long_kindOfShift_0 : decode b_Long_kindOfShift 0 = .ok (.iload_n 1, 1) := by decide +kernel
theorem d_Long_kindOfShift_1 : decode b_Long_kindOfShift 1 = .ok (.ifCond .ne 16, 3) := by decide +kernel
theorem d_Long_kindOfShift_4 : decode b_Long_kindOfShift 4 = .ok (.iload_n 0, 1) := by decide +kernel
theorem d_Long_kindOfShift_5 : decode b_Long_kindOfShift 5 = .ok (.iconst 1, 1) := by decide +kernel
theorem d_Long_kindOfShift_6 : decode b_Long_kindOfShift 6 = .ok (.if_icmp .ne 8, 3) := by decide +kernel
theorem d_Long_kindOfShift_9 : decode b_Long_kindOfShift 9 = .ok (.bipush 24, 2) := by decide +kernel
theorem d_Long_kindOfShift_11 : decode b_Long_kindOfShift 11 = .ok (.goto 5, 3) := by decide +kernel
theorem d_Long_kindOfShift_14 : decode b_Long_kindOfShift 14 = .ok (.bipush 25, 2) := by decide +kernel
theorem d_Long_kindOfShift_16 : decode b_Long_kindOfShift 16 = .ok (.ireturn, 1) := by decide +kernel
theorem d_Long_kindOfShift_17 : decode b_Long_kindOfShift 17 = .ok (.iload_n 1, 1) := by decide +kernel
theorem d_Long_kindOfShift_18 : decode b_Long_kindOfShift 18 = .ok (.bipush 32, 2) := by decide +kernel
theorem d_Long_kindOfShift_20 : decode b_Long_kindOfShift 20 = .ok (.if_icmp .ne 13, 3) := by decide +kernel
theorem d_Long_kindOfShift_23 : decode b_Long_kindOfShift 23 = .ok (.iload_n 0, 1) := by decide +kernel
theorem d_Long_kindOfShift_24 : decode b_Long_kindOfShift 24 = .ok (.iconst 5, 1) := by decide +kernel
theorem d_Long_kindOfShift_25 : decode b_Long_kindOfShift 25 = .ok (.if_icmp .ne 8, 3) := by decide +kernel
theorem d_Long_kindOfShift_28 : decode b_Long_kindOfShift 28 = .ok (.bipush 26, 2) := by decide +kernel
theorem d_Long_kindOfShift_30 : decode b_Long_kindOfShift 30 = .ok (.goto 4, 3) := by decide +kernel
theorem d_Long_kindOfShift_33 : decode b_Long_kindOfShift 33 = .ok (.iconst (-1), 1) := by decide +kernel
theorem d_Long_kindOfShift_34 : decode b_Long_kindOfShift 34 = .ok (.ireturn, 1) := by decide +kernel
theorem d_Long_immediateOfJump_0 : decode b_Long_immediateOfJump 0 = .ok (.iload_n 0, 1) := by decide +kernel
theorem d_Long_immediateOfJump_1 : decode b_Long_immediateOfJump 1 = .ok (.bipush 31, 2) := by decide +kernel
theorem d_Long_immediateOfJump_3 : decode b_Long_immediateOfJump 3 = .ok (.iconst 1, 1) := by decide +kernel
theorem d_Long_immediateOfJump_4 : decode b_Long_immediateOfJump 4 = .ok (.bipush 20, 2) := by decide +kernel
theorem d_Long_immediateOfJump_6 : decode b_Long_immediateOfJump 6 = .ok (.invokestatic 69, 3) := by decide +kernel
theorem d_Long_immediateOfJump_9 : decode b_Long_immediateOfJump 9 = .ok (.iload_n 0, 1) := by decide +kernel
theorem d_Long_immediateOfJump_10 : decode b_Long_immediateOfJump 10 = .ok (.bipush 21, 2) := by decide +kernel
theorem d_Long_immediateOfJump_12 : decode b_Long_immediateOfJump 12 = .ok (.bipush 10, 2) := by decide +kernel
theorem d_Long_immediateOfJump_14 : decode b_Long_immediateOfJump 14 = .ok (.iconst 1, 1) := by decide +kernel
theorem d_Long_immediateOfJump_15 : decode b_Long_immediateOfJump 15 = .ok (.invokestatic 69, 3) := by decide +kernel
theorem d_Long_immediateOfJump_18 : decode b_Long_immediateOfJump 18 = .ok (.ior, 1) := by decide +kernel
theorem d_Long_immediateOfJump_19 : decode b_Long_immediateOfJump 19 = .ok (.iload_n 0, 1) := by decide +kernel
theorem d_Long_immediateOfJump_20 : decode b_Long_immediateOfJump 20 = .ok (.bipush 20, 2) := by decide +kernel
theorem d_Long_immediateOfJump_22 : decode b_Long_immediateOfJump 22 = .ok (.iconst 1, 1) := by decide +kernel
theorem d_Long_immediateOfJump_23 : decode b_Long_immediateOfJump 23 = .ok (.bipush 11, 2) := by decide +kernel
theorem d_Long_immediateOfJump_25 : decode b_Long_immediateOfJump 25 = .ok (.invokestatic 69, 3) := by decide +kernel
theorem d_Long_immediateOfJump_28 : decode b_Long_immediateOfJump 28 = .ok (.ior, 1) := by decide +kernel
theorem d_Long_immediateOfJump_29 : decode b_Long_immediateOfJump 29 = .ok (.iload_n 0, 1) := by decide +kernel
theorem d_Long_immediateOfJump_30 : decode b_Long_immediateOfJump 30 = .ok (.bipush 12, 2) := by decide +kernel
theorem d_Long_immediateOfJump_32 : decode b_Long_immediateOfJump 32 = .ok (.bipush 8, 2) := by decide +kernel
theorem d_Long_immediateOfJump_34 : decode b_Long_immediateOfJump 34 = .ok (.bipush 12, 2) := by decide +kernel
theorem d_Long_immediateOfJump_36 : decode b_Long_immediateOfJump 36 = .ok (.invokestatic 69, 3) := by decide +kernel
theorem d_Long_immediateOfJump_39 : decode b_Long_immediateOfJump 39 = .ok (.ior, 1) := by decide +kernel
theorem d_Long_immediateOfJump_40 : decode b_Long_immediateOfJump 40 = .ok (.istore_n 1, 1) := by decide +kernel
theorem d_Long_immediateOfJump_41 : decode b_Long_immediateOfJump 41 = .ok (.iload_n 1, 1) := by decide +kernel
theorem d_Long_immediateOfJump_42 : decode b_Long_immediateOfJump 42 = .ok (.bipush 21, 2) := by decide +kernel
theorem d_Long_immediateOfJump_44 : decode b_Long_immediateOfJump 44 = .ok (.invokestatic 73, 3) := by decide +kernel
theorem d_Long_immediateOfJump_47 : decode b_Long_immediateOfJump 47 = .ok (.ireturn, 1) := by decide +kernel
theorem d_Long_immediateOfBranch_0 : decode b_Long_immediateOfBranch 0 = .ok (.iload_n 0, 1) := by decide +kernel
theorem d_Long_immediateOfBranch_1 : decode b_Long_immediateOfBranch 1 = .ok (.bipush 31, 2) := by decide +kernel
theorem d_Long_immediateOfBranch_3 : decode b_Long_immediateOfBranch 3 = .ok (.iconst 1, 1) := by decide +kernel
theorem d_Long_immediateOfBranch_4 : decode b_Long_immediateOfBranch 4 = .ok (.bipush 12, 2) := by decide +kernel
theorem d_Long_immediateOfBranch_6 : decode b_Long_immediateOfBranch 6 = .ok (.invokestatic 69, 3) := by decide +kernel
theorem d_Long_immediateOfBranch_9 : decode b_Long_immediateOfBranch 9 = .ok (.iload_n 0, 1) := by decide +kernel
theorem d_Long_immediateOfBranch_10 : decode b_Long_immediateOfBranch 10 = .ok (.bipush 25, 2) := by decide +kernel
theorem d_Long_immediateOfBranch_12 : decode b_Long_immediateOfBranch 12 = .ok (.bipush 6, 2) := by decide +kernel
theorem d_Long_immediateOfBranch_14 : decode b_Long_immediateOfBranch 14 = .ok (.iconst 5, 1) := by decide +kernel
theorem d_Long_immediateOfBranch_15 : decode b_Long_immediateOfBranch 15 = .ok (.invokestatic 69, 3) := by decide +kernel
theorem d_Long_immediateOfBranch_18 : decode b_Long_immediateOfBranch 18 = .ok (.ior, 1) := by decide +kernel
theorem d_Long_immediateOfBranch_19 : decode b_Long_immediateOfBranch 19 = .ok (.iload_n 0, 1) := by decide +kernel
theorem d_Long_immediateOfBranch_20 : decode b_Long_immediateOfBranch 20 = .ok (.bipush 8, 2) := by decide +kernel
theorem d_Long_immediateOfBranch_22 : decode b_Long_immediateOfBranch 22 = .ok (.iconst 4, 1) := by decide +kernel
theorem d_Long_immediateOfBranch_23 : decode b_Long_immediateOfBranch 23 = .ok (.iconst 1, 1) := by decide +kernel
theorem d_Long_immediateOfBranch_24 : decode b_Long_immediateOfBranch 24 = .ok (.invokestatic 69, 3) := by decide +kernel
theorem d_Long_immediateOfBranch_27 : decode b_Long_immediateOfBranch 27 = .ok (.ior, 1) := by decide +kernel
theorem d_Long_immediateOfBranch_28 : decode b_Long_immediateOfBranch 28 = .ok (.iload_n 0, 1) := by decide +kernel
theorem d_Long_immediateOfBranch_29 : decode b_Long_immediateOfBranch 29 = .ok (.bipush 7, 2) := by decide +kernel
theorem d_Long_immediateOfBranch_31 : decode b_Long_immediateOfBranch 31 = .ok (.iconst 1, 1) := by decide +kernel
theorem d_Long_immediateOfBranch_32 : decode b_Long_immediateOfBranch 32 = .ok (.bipush 11, 2) := by decide +kernel
theorem d_Long_immediateOfBranch_34 : decode b_Long_immediateOfBranch 34 = .ok (.invokestatic 69, 3) := by decide +kernel
theorem d_Long_immediateOfBranch_37 : decode b_Long_immediateOfBranch 37 = .ok (.ior, 1) := by decide +kernel
theorem d_Long_immediateOfBranch_38 : decode b_Long_immediateOfBranch 38 = .ok (.istore_n 1, 1) := by decide +kernel
theorem d_Long_immediateOfBranch_39 : decode b_Long_immediateOfBranch 39 = .ok (.iload_n 1, 1) := by decide +kernel
theorem d_Long_immediateOfBranch_40 : decode b_Long_immediateOfBranch 40 = .ok (.bipush 13, 2) := by decide +kernel
theorem d_Long_immediateOfBranch_42 : decode b_Long_immediateOfBranch 42 = .ok (.invokestatic 73, 3) := by decide +kernel
theorem d_Long_immediateOfBranch_45 : decode b_Long_immediateOfBranch 45 = .ok (.ireturn, 1) := by decide +kernel
theorem d_Long_immediateOfStore_0 : decode b_Long_immediateOfStore 0 = .ok (.iload_n 0, 1) := by decide +kernel
theorem d_Long_immediateOfStore_1 : decode b_Long_immediateOfStore 1 = .ok (.bipush 25, 2) := by decide +kernel
theorem d_Long_immediateOfStore_3 : decode b_Long_immediateOfStore 3 = .ok (.bipush 7, 2) := by decide +kernel
theorem d_Long_immediateOfStore_5 : decode b_Long_immediateOfStore 5 = .ok (.iconst 5, 1) := by decide +kernel
theorem d_Long_immediateOfStore_6 : decode b_Long_immediateOfStore 6 = .ok (.invokestatic 69, 3) := by decide +kernel
theorem d_Long_immediateOfStore_9 : decode b_Long_immediateOfStore 9 = .ok (.iload_n 0, 1) := by decide +kernel
theorem d_Long_immediateOfStore_10 : decode b_Long_immediateOfStore 10 = .ok (.bipush 7, 2) := by decide +kernel
theorem d_Long_immediateOfStore_12 : decode b_Long_immediateOfStore 12 = .ok (.iconst 5, 1) := by decide +kernel
theorem d_Long_immediateOfStore_13 : decode b_Long_immediateOfStore 13 = .ok (.iconst 0, 1) := by decide +kernel
theorem d_Long_immediateOfStore_14 : decode b_Long_immediateOfStore 14 = .ok (.invokestatic 69, 3) := by decide +kernel
theorem d_Long_immediateOfStore_17 : decode b_Long_immediateOfStore 17 = .ok (.ior, 1) := by decide +kernel
theorem d_Long_immediateOfStore_18 : decode b_Long_immediateOfStore 18 = .ok (.bipush 12, 2) := by decide +kernel
theorem d_Long_immediateOfStore_20 : decode b_Long_immediateOfStore 20 = .ok (.invokestatic 73, 3) := by decide +kernel
theorem d_Long_immediateOfStore_23 : decode b_Long_immediateOfStore 23 = .ok (.ireturn, 1) := by decide +kernel
theorem d_Memo_init_0 : decode b_Memo_init 0 = .ok (.aload_n 0, 1) := by decide +kernel
theorem d_Memo_init_1 : decode b_Memo_init 1 = .ok (.invokespecial 1, 3) := by decide +kernel
theorem d_Memo_init_4 : decode b_Memo_init 4 = .ok (.aload_n 0, 1) := by decide +kernel
theorem d_Memo_init_5 : decode b_Memo_init 5 = .ok (.ldc 9, 2) := by decide +kernel
theorem d_Memo_init_7 : decode b_Memo_init 7 = .ok (.newarray .int, 2) := by decide +kernel
theorem d_Memo_init_9 : decode b_Memo_init 9 = .ok (.putfield 10, 3) := by decide +kernel
theorem d_Memo_init_12 : decode b_Memo_init 12 = .ok (.return_, 1) := by decide +kernel
theorem d_Memo_has_0 : decode b_Memo_has 0 = .ok (.iload_n 0, 1) := by decide +kernel
theorem d_Memo_has_1 : decode b_Memo_has 1 = .ok (.ifCond .lt 13, 3) := by decide +kernel
theorem d_Memo_has_4 : decode b_Memo_has 4 = .ok (.iload_n 0, 1) := by decide +kernel
theorem d_Memo_has_5 : decode b_Memo_has 5 = .ok (.ldc 14, 2) := by decide +kernel
theorem d_Memo_has_7 : decode b_Memo_has 7 = .ok (.if_icmp .ge 7, 3) := by decide +kernel
theorem d_Memo_has_10 : decode b_Memo_has 10 = .ok (.iconst 1, 1) := by decide +kernel
theorem d_Memo_has_11 : decode b_Memo_has 11 = .ok (.goto 4, 3) := by decide +kernel
theorem d_Memo_has_14 : decode b_Memo_has 14 = .ok (.iconst 0, 1) := by decide +kernel
theorem d_Memo_has_15 : decode b_Memo_has 15 = .ok (.ireturn, 1) := by decide +kernel
theorem d_Memo_number_0 : decode b_Memo_number 0 = .ok (.aload_n 0, 1) := by decide +kernel
theorem d_Memo_number_1 : decode b_Memo_number 1 = .ok (.iload_n 1, 1) := by decide +kernel
theorem d_Memo_number_2 : decode b_Memo_number 2 = .ok (.invokevirtual 15, 3) := by decide +kernel
theorem d_Memo_number_5 : decode b_Memo_number 5 = .ok (.iload_n 1, 1) := by decide +kernel
theorem d_Memo_number_6 : decode b_Memo_number 6 = .ok (.invokestatic 19, 3) := by decide +kernel
theorem d_Memo_number_9 : decode b_Memo_number 9 = .ok (.iushr, 1) := by decide +kernel
theorem d_Memo_number_10 : decode b_Memo_number 10 = .ok (.iload_n 2, 1) := by decide +kernel
theorem d_Memo_number_11 : decode b_Memo_number 11 = .ok (.invokestatic 22, 3) := by decide +kernel
theorem d_Memo_number_14 : decode b_Memo_number 14 = .ok (.iand, 1) := by decide +kernel
theorem d_Memo_number_15 : decode b_Memo_number 15 = .ok (.ireturn, 1) := by decide +kernel
theorem d_Memo_putNumber_0 : decode b_Memo_putNumber 0 = .ok (.iload_n 2, 1) := by decide +kernel
theorem d_Memo_putNumber_1 : decode b_Memo_putNumber 1 = .ok (.invokestatic 22, 3) := by decide +kernel
theorem d_Memo_putNumber_4 : decode b_Memo_putNumber 4 = .ok (.iload_n 1, 1) := by decide +kernel
theorem d_Memo_putNumber_5 : decode b_Memo_putNumber 5 = .ok (.invokestatic 19, 3) := by decide +kernel
theorem d_Memo_putNumber_8 : decode b_Memo_putNumber 8 = .ok (.ishl, 1) := by decide +kernel
theorem d_Memo_putNumber_9 : decode b_Memo_putNumber 9 = .ok (.istore 4, 2) := by decide +kernel
theorem d_Memo_putNumber_11 : decode b_Memo_putNumber 11 = .ok (.aload_n 0, 1) := by decide +kernel
theorem d_Memo_putNumber_12 : decode b_Memo_putNumber 12 = .ok (.iload_n 1, 1) := by decide +kernel
theorem d_Memo_putNumber_13 : decode b_Memo_putNumber 13 = .ok (.aload_n 0, 1) := by decide +kernel
theorem d_Memo_putNumber_14 : decode b_Memo_putNumber 14 = .ok (.iload_n 1, 1) := by decide +kernel
theorem d_Memo_putNumber_15 : decode b_Memo_putNumber 15 = .ok (.invokevirtual 15, 3) := by decide +kernel
theorem d_Memo_putNumber_18 : decode b_Memo_putNumber 18 = .ok (.iload 4, 2) := by decide +kernel
theorem d_Memo_putNumber_20 : decode b_Memo_putNumber 20 = .ok (.iconst (-1), 1) := by decide +kernel
theorem d_Memo_putNumber_21 : decode b_Memo_putNumber 21 = .ok (.ixor, 1) := by decide +kernel
theorem d_Memo_putNumber_22 : decode b_Memo_putNumber 22 = .ok (.iand, 1) := by decide +kernel
theorem d_Memo_putNumber_23 : decode b_Memo_putNumber 23 = .ok (.iload_n 3, 1) := by decide +kernel
theorem d_Memo_putNumber_24 : decode b_Memo_putNumber 24 = .ok (.iload_n 1, 1) := by decide +kernel
theorem d_Memo_putNumber_25 : decode b_Memo_putNumber 25 = .ok (.invokestatic 19, 3) := by decide +kernel
theorem d_Memo_putNumber_28 : decode b_Memo_putNumber 28 = .ok (.ishl, 1) := by decide +kernel
theorem d_Memo_putNumber_29 : decode b_Memo_putNumber 29 = .ok (.iload 4, 2) := by decide +kernel
theorem d_Memo_putNumber_31 : decode b_Memo_putNumber 31 = .ok (.iand, 1) := by decide +kernel
theorem d_Memo_putNumber_32 : decode b_Memo_putNumber 32 = .ok (.ior, 1) := by decide +kernel
theorem d_Memo_putNumber_33 : decode b_Memo_putNumber 33 = .ok (.invokevirtual 25, 3) := by decide +kernel
theorem d_Memo_putNumber_36 : decode b_Memo_putNumber 36 = .ok (.return_, 1) := by decide +kernel
theorem d_Memo_cellOf_0 : decode b_Memo_cellOf 0 = .ok (.iload_n 1, 1) := by decide +kernel
theorem d_Memo_cellOf_1 : decode b_Memo_cellOf 1 = .ok (.invokestatic 29, 3) := by decide +kernel
theorem d_Memo_cellOf_4 : decode b_Memo_cellOf 4 = .ok (.ifCond .eq 14, 3) := by decide +kernel
theorem d_Memo_cellOf_7 : decode b_Memo_cellOf 7 = .ok (.aload_n 0, 1) := by decide +kernel
theorem d_Memo_cellOf_8 : decode b_Memo_cellOf 8 = .ok (.getfield 10, 3) := by decide +kernel
theorem d_Memo_cellOf_11 : decode b_Memo_cellOf 11 = .ok (.iload_n 1, 1) := by decide +kernel
theorem d_Memo_cellOf_12 : decode b_Memo_cellOf 12 = .ok (.iconst 2, 1) := by decide +kernel
theorem d_Memo_cellOf_13 : decode b_Memo_cellOf 13 = .ok (.ishr, 1) := by decide +kernel
theorem d_Memo_cellOf_14 : decode b_Memo_cellOf 14 = .ok (.iaload, 1) := by decide +kernel
theorem d_Memo_cellOf_15 : decode b_Memo_cellOf 15 = .ok (.goto 4, 3) := by decide +kernel
theorem d_Memo_cellOf_18 : decode b_Memo_cellOf 18 = .ok (.iconst 0, 1) := by decide +kernel
theorem d_Memo_cellOf_19 : decode b_Memo_cellOf 19 = .ok (.ireturn, 1) := by decide +kernel
theorem d_Memo_putCell_0 : decode b_Memo_putCell 0 = .ok (.iload_n 1, 1) := by decide +kernel
theorem d_Memo_putCell_1 : decode b_Memo_putCell 1 = .ok (.invokestatic 29, 3) := by decide +kernel
theorem d_Memo_putCell_4 : decode b_Memo_putCell 4 = .ok (.ifCond .eq 12, 3) := by decide +kernel
theorem d_Memo_putCell_7 : decode b_Memo_putCell 7 = .ok (.aload_n 0, 1) := by decide +kernel
theorem d_Memo_putCell_8 : decode b_Memo_putCell 8 = .ok (.getfield 10, 3) := by decide +kernel
theorem d_Memo_putCell_11 : decode b_Memo_putCell 11 = .ok (.iload_n 1, 1) := by decide +kernel
theorem d_Memo_putCell_12 : decode b_Memo_putCell 12 = .ok (.iconst 2, 1) := by decide +kernel
theorem d_Memo_putCell_13 : decode b_Memo_putCell 13 = .ok (.ishr, 1) := by decide +kernel
theorem d_Memo_putCell_14 : decode b_Memo_putCell 14 = .ok (.iload_n 2, 1) := by decide +kernel
theorem d_Memo_putCell_15 : decode b_Memo_putCell 15 = .ok (.iastore, 1) := by decide +kernel
theorem d_Memo_putCell_16 : decode b_Memo_putCell 16 = .ok (.return_, 1) := by decide +kernel
theorem d_Memo_shiftOf_0 : decode b_Memo_shiftOf 0 = .ok (.iload_n 0, 1) := by decide +kernel
theorem d_Memo_shiftOf_1 : decode b_Memo_shiftOf 1 = .ok (.iconst 3, 1) := by decide +kernel
theorem d_Memo_shiftOf_2 : decode b_Memo_shiftOf 2 = .ok (.iand, 1) := by decide +kernel
theorem d_Memo_shiftOf_3 : decode b_Memo_shiftOf 3 = .ok (.bipush 8, 2) := by decide +kernel
theorem d_Memo_shiftOf_5 : decode b_Memo_shiftOf 5 = .ok (.imul, 1) := by decide +kernel
theorem d_Memo_shiftOf_6 : decode b_Memo_shiftOf 6 = .ok (.ireturn, 1) := by decide +kernel
theorem d_Memo_maskOf_0 : decode b_Memo_maskOf 0 = .ok (.iload_n 0, 1) := by decide +kernel
theorem d_Memo_maskOf_1 : decode b_Memo_maskOf 1 = .ok (.iconst 4, 1) := by decide +kernel
theorem d_Memo_maskOf_2 : decode b_Memo_maskOf 2 = .ok (.if_icmp .lt 7, 3) := by decide +kernel
theorem d_Memo_maskOf_5 : decode b_Memo_maskOf 5 = .ok (.iconst (-1), 1) := by decide +kernel
theorem d_Memo_maskOf_6 : decode b_Memo_maskOf 6 = .ok (.goto 11, 3) := by decide +kernel
theorem d_Memo_maskOf_9 : decode b_Memo_maskOf 9 = .ok (.iconst 1, 1) := by decide +kernel
theorem d_Memo_maskOf_10 : decode b_Memo_maskOf 10 = .ok (.bipush 8, 2) := by decide +kernel
theorem d_Memo_maskOf_12 : decode b_Memo_maskOf 12 = .ok (.iload_n 0, 1) := by decide +kernel
theorem d_Memo_maskOf_13 : decode b_Memo_maskOf 13 = .ok (.imul, 1) := by decide +kernel
theorem d_Memo_maskOf_14 : decode b_Memo_maskOf 14 = .ok (.ishl, 1) := by decide +kernel
theorem d_Memo_maskOf_15 : decode b_Memo_maskOf 15 = .ok (.iconst 1, 1) := by decide +kernel
theorem d_Memo_maskOf_16 : decode b_Memo_maskOf 16 = .ok (.isub, 1) := by decide +kernel
theorem d_Memo_maskOf_17 : decode b_Memo_maskOf 17 = .ok (.ireturn, 1) := by decide +kernel
theorem d_Port_init_0 : decode b_Port_init 0 = .ok (.aload_n 0, 1) := by decide +kernel
theorem d_Port_init_1 : decode b_Port_init 1 = .ok (.invokespecial 3, 3) := by decide +kernel
theorem d_Port_init_4 : decode b_Port_init 4 = .ok (.aload_n 0, 1) := by decide +kernel
theorem d_Port_init_5 : decode b_Port_init 5 = .ok (.sipush 1000, 3) := by decide +kernel
theorem d_Port_init_8 : decode b_Port_init 8 = .ok (.newarray .byte, 2) := by decide +kernel
theorem d_Port_init_10 : decode b_Port_init 10 = .ok (.putfield 11, 3) := by decide +kernel
theorem d_Port_init_13 : decode b_Port_init 13 = .ok (.aload_n 0, 1) := by decide +kernel
theorem d_Port_init_14 : decode b_Port_init 14 = .ok (.sipush 2000, 3) := by decide +kernel
theorem d_Port_init_17 : decode b_Port_init 17 = .ok (.newarray .byte, 2) := by decide +kernel
theorem d_Port_init_19 : decode b_Port_init 19 = .ok (.putfield 15, 3) := by decide +kernel
theorem d_Port_init_22 : decode b_Port_init 22 = .ok (.return_, 1) := by decide +kernel
theorem d_Port_hasRoomIn_0 : decode b_Port_hasRoomIn 0 = .ok (.iload_n 1, 1) := by decide +kernel
theorem d_Port_hasRoomIn_1 : decode b_Port_hasRoomIn 1 = .ok (.sipush 1000, 3) := by decide +kernel
theorem d_Port_hasRoomIn_4 : decode b_Port_hasRoomIn 4 = .ok (.aload_n 0, 1) := by decide +kernel
theorem d_Port_hasRoomIn_5 : decode b_Port_hasRoomIn 5 = .ok (.getfield 18, 3) := by decide +kernel
theorem d_Port_hasRoomIn_8 : decode b_Port_hasRoomIn 8 = .ok (.isub, 1) := by decide +kernel
theorem d_Port_hasRoomIn_9 : decode b_Port_hasRoomIn 9 = .ok (.if_icmp .gt 7, 3) := by decide +kernel
theorem d_Port_hasRoomIn_12 : decode b_Port_hasRoomIn 12 = .ok (.iconst 1, 1) := by decide +kernel
theorem d_Port_hasRoomIn_13 : decode b_Port_hasRoomIn 13 = .ok (.goto 4, 3) := by decide +kernel
theorem d_Port_hasRoomIn_16 : decode b_Port_hasRoomIn 16 = .ok (.iconst 0, 1) := by decide +kernel
theorem d_Port_hasRoomIn_17 : decode b_Port_hasRoomIn 17 = .ok (.ireturn, 1) := by decide +kernel
theorem d_Port_give_0 : decode b_Port_give 0 = .ok (.aload_n 0, 1) := by decide +kernel
theorem d_Port_give_1 : decode b_Port_give 1 = .ok (.iconst 1, 1) := by decide +kernel
theorem d_Port_give_2 : decode b_Port_give 2 = .ok (.invokevirtual 22, 3) := by decide +kernel
theorem d_Port_give_5 : decode b_Port_give 5 = .ok (.ifCond .eq 24, 3) := by decide +kernel
theorem d_Port_give_8 : decode b_Port_give 8 = .ok (.aload_n 0, 1) := by decide +kernel
theorem d_Port_give_9 : decode b_Port_give 9 = .ok (.getfield 11, 3) := by decide +kernel
theorem d_Port_give_12 : decode b_Port_give 12 = .ok (.aload_n 0, 1) := by decide +kernel
theorem d_Port_give_13 : decode b_Port_give 13 = .ok (.getfield 18, 3) := by decide +kernel
theorem d_Port_give_16 : decode b_Port_give 16 = .ok (.iload_n 1, 1) := by decide +kernel
theorem d_Port_give_17 : decode b_Port_give 17 = .ok (.i2b, 1) := by decide +kernel
theorem d_Port_give_18 : decode b_Port_give 18 = .ok (.bastore, 1) := by decide +kernel
theorem d_Port_give_19 : decode b_Port_give 19 = .ok (.aload_n 0, 1) := by decide +kernel
theorem d_Port_give_20 : decode b_Port_give 20 = .ok (.dup, 1) := by decide +kernel
theorem d_Port_give_21 : decode b_Port_give 21 = .ok (.getfield 18, 3) := by decide +kernel
theorem d_Port_give_24 : decode b_Port_give 24 = .ok (.iconst 1, 1) := by decide +kernel
theorem d_Port_give_25 : decode b_Port_give 25 = .ok (.iadd, 1) := by decide +kernel
theorem d_Port_give_26 : decode b_Port_give 26 = .ok (.putfield 18, 3) := by decide +kernel
theorem d_Port_give_29 : decode b_Port_give 29 = .ok (.return_, 1) := by decide +kernel
theorem d_Port_take_0 : decode b_Port_take 0 = .ok (.aload_n 0, 1) := by decide +kernel
theorem d_Port_take_1 : decode b_Port_take 1 = .ok (.getfield 26, 3) := by decide +kernel
theorem d_Port_take_4 : decode b_Port_take 4 = .ok (.aload_n 0, 1) := by decide +kernel
theorem d_Port_take_5 : decode b_Port_take 5 = .ok (.getfield 18, 3) := by decide +kernel
theorem d_Port_take_8 : decode b_Port_take 8 = .ok (.if_icmp .lt 5, 3) := by decide +kernel
theorem d_Port_take_11 : decode b_Port_take 11 = .ok (.iconst (-1), 1) := by decide +kernel
theorem d_Port_take_12 : decode b_Port_take 12 = .ok (.ireturn, 1) := by decide +kernel
theorem d_Port_take_13 : decode b_Port_take 13 = .ok (.aload_n 0, 1) := by decide +kernel
theorem d_Port_take_14 : decode b_Port_take 14 = .ok (.getfield 11, 3) := by decide +kernel
theorem d_Port_take_17 : decode b_Port_take 17 = .ok (.aload_n 0, 1) := by decide +kernel
theorem d_Port_take_18 : decode b_Port_take 18 = .ok (.getfield 26, 3) := by decide +kernel
theorem d_Port_take_21 : decode b_Port_take 21 = .ok (.baload, 1) := by decide +kernel
theorem d_Port_take_22 : decode b_Port_take 22 = .ok (.sipush 255, 3) := by decide +kernel
theorem d_Port_take_25 : decode b_Port_take 25 = .ok (.iand, 1) := by decide +kernel
theorem d_Port_take_26 : decode b_Port_take 26 = .ok (.istore_n 1, 1) := by decide +kernel
theorem d_Port_take_27 : decode b_Port_take 27 = .ok (.aload_n 0, 1) := by decide +kernel
theorem d_Port_take_28 : decode b_Port_take 28 = .ok (.dup, 1) := by decide +kernel
theorem d_Port_take_29 : decode b_Port_take 29 = .ok (.getfield 26, 3) := by decide +kernel
theorem d_Port_take_32 : decode b_Port_take 32 = .ok (.iconst 1, 1) := by decide +kernel
theorem d_Port_take_33 : decode b_Port_take 33 = .ok (.iadd, 1) := by decide +kernel
theorem d_Port_take_34 : decode b_Port_take 34 = .ok (.putfield 26, 3) := by decide +kernel
theorem d_Port_take_37 : decode b_Port_take 37 = .ok (.iload_n 1, 1) := by decide +kernel
theorem d_Port_take_38 : decode b_Port_take 38 = .ok (.ireturn, 1) := by decide +kernel
theorem d_Port_put_0 : decode b_Port_put 0 = .ok (.aload_n 0, 1) := by decide +kernel
theorem d_Port_put_1 : decode b_Port_put 1 = .ok (.getfield 29, 3) := by decide +kernel
theorem d_Port_put_4 : decode b_Port_put 4 = .ok (.sipush 2000, 3) := by decide +kernel
theorem d_Port_put_7 : decode b_Port_put 7 = .ok (.if_icmp .lt 5, 3) := by decide +kernel
theorem d_Port_put_10 : decode b_Port_put 10 = .ok (.iconst (-1), 1) := by decide +kernel
theorem d_Port_put_11 : decode b_Port_put 11 = .ok (.ireturn, 1) := by decide +kernel
theorem d_Port_put_12 : decode b_Port_put 12 = .ok (.aload_n 0, 1) := by decide +kernel
theorem d_Port_put_13 : decode b_Port_put 13 = .ok (.getfield 15, 3) := by decide +kernel
theorem d_Port_put_16 : decode b_Port_put 16 = .ok (.aload_n 0, 1) := by decide +kernel
theorem d_Port_put_17 : decode b_Port_put 17 = .ok (.getfield 29, 3) := by decide +kernel
theorem d_Port_put_20 : decode b_Port_put 20 = .ok (.iload_n 1, 1) := by decide +kernel
theorem d_Port_put_21 : decode b_Port_put 21 = .ok (.i2b, 1) := by decide +kernel
theorem d_Port_put_22 : decode b_Port_put 22 = .ok (.bastore, 1) := by decide +kernel
theorem d_Port_put_23 : decode b_Port_put 23 = .ok (.aload_n 0, 1) := by decide +kernel
theorem d_Port_put_24 : decode b_Port_put 24 = .ok (.dup, 1) := by decide +kernel
theorem d_Port_put_25 : decode b_Port_put 25 = .ok (.getfield 29, 3) := by decide +kernel
theorem d_Port_put_28 : decode b_Port_put 28 = .ok (.iconst 1, 1) := by decide +kernel
theorem d_Port_put_29 : decode b_Port_put 29 = .ok (.iadd, 1) := by decide +kernel
theorem d_Port_put_30 : decode b_Port_put 30 = .ok (.putfield 29, 3) := by decide +kernel
theorem d_Port_put_33 : decode b_Port_put 33 = .ok (.aload_n 0, 1) := by decide +kernel
theorem d_Port_put_34 : decode b_Port_put 34 = .ok (.getfield 29, 3) := by decide +kernel
theorem d_Port_put_37 : decode b_Port_put 37 = .ok (.ireturn, 1) := by decide +kernel
theorem d_Port_outputAt_0 : decode b_Port_outputAt 0 = .ok (.iload_n 1, 1) := by decide +kernel
theorem d_Port_outputAt_1 : decode b_Port_outputAt 1 = .ok (.ifCond .lt 24, 3) := by decide +kernel
theorem d_Port_outputAt_4 : decode b_Port_outputAt 4 = .ok (.iload_n 1, 1) := by decide +kernel
theorem d_Port_outputAt_5 : decode b_Port_outputAt 5 = .ok (.aload_n 0, 1) := by decide +kernel
theorem d_Port_outputAt_6 : decode b_Port_outputAt 6 = .ok (.getfield 29, 3) := by decide +kernel
theorem d_Port_outputAt_9 : decode b_Port_outputAt 9 = .ok (.if_icmp .ge 16, 3) := by decide +kernel
theorem d_Port_outputAt_12 : decode b_Port_outputAt 12 = .ok (.aload_n 0, 1) := by decide +kernel
theorem d_Port_outputAt_13 : decode b_Port_outputAt 13 = .ok (.getfield 15, 3) := by decide +kernel
theorem d_Port_outputAt_16 : decode b_Port_outputAt 16 = .ok (.iload_n 1, 1) := by decide +kernel
theorem d_Port_outputAt_17 : decode b_Port_outputAt 17 = .ok (.baload, 1) := by decide +kernel
theorem d_Port_outputAt_18 : decode b_Port_outputAt 18 = .ok (.sipush 255, 3) := by decide +kernel
theorem d_Port_outputAt_21 : decode b_Port_outputAt 21 = .ok (.iand, 1) := by decide +kernel
theorem d_Port_outputAt_22 : decode b_Port_outputAt 22 = .ok (.goto 4, 3) := by decide +kernel
theorem d_Port_outputAt_25 : decode b_Port_outputAt 25 = .ok (.iconst (-1), 1) := by decide +kernel
theorem d_Port_outputAt_26 : decode b_Port_outputAt 26 = .ok (.ireturn, 1) := by decide +kernel
theorem d_Shor_read_0 : decode b_Shor_read 0 = .ok (.aload_n 1, 1) := by decide +kernel
theorem d_Shor_read_1 : decode b_Shor_read 1 = .ok (.iconst 2, 1) := by decide +kernel
theorem d_Shor_read_2 : decode b_Shor_read 2 = .ok (.invokevirtual 7, 3) := by decide +kernel
theorem d_Shor_read_5 : decode b_Shor_read 5 = .ok (.iload_n 0, 1) := by decide +kernel
theorem d_Shor_read_6 : decode b_Shor_read 6 = .ok (.iconst 3, 1) := by decide +kernel
theorem d_Shor_read_7 : decode b_Shor_read 7 = .ok (.iand, 1) := by decide +kernel
theorem d_Shor_read_8 : decode b_Shor_read 8 = .ok (.tableswitch 52 0 2 #[28, 36, 44], 28) := by decide +kernel
theorem d_Shor_read_36 : decode b_Shor_read 36 = .ok (.iload_n 0, 1) := by decide +kernel
theorem d_Shor_read_37 : decode b_Shor_read 37 = .ok (.aload_n 1, 1) := by decide +kernel
theorem d_Shor_read_38 : decode b_Shor_read 38 = .ok (.invokestatic 13, 3) := by decide +kernel
theorem d_Shor_read_41 : decode b_Shor_read 41 = .ok (.goto 19, 3) := by decide +kernel
theorem d_Shor_read_44 : decode b_Shor_read 44 = .ok (.iload_n 0, 1) := by decide +kernel
theorem d_Shor_read_45 : decode b_Shor_read 45 = .ok (.aload_n 1, 1) := by decide +kernel
theorem d_Shor_read_46 : decode b_Shor_read 46 = .ok (.invokestatic 19, 3) := by decide +kernel
theorem d_Shor_read_49 : decode b_Shor_read 49 = .ok (.goto 11, 3) := by decide +kernel
theorem d_Shor_read_52 : decode b_Shor_read 52 = .ok (.iload_n 0, 1) := by decide +kernel
theorem d_Shor_read_53 : decode b_Shor_read 53 = .ok (.aload_n 1, 1) := by decide +kernel
theorem d_Shor_read_54 : decode b_Shor_read 54 = .ok (.invokestatic 22, 3) := by decide +kernel
theorem d_Shor_read_57 : decode b_Shor_read 57 = .ok (.goto 3, 3) := by decide +kernel
theorem d_Shor_read_60 : decode b_Shor_read 60 = .ok (.return_, 1) := by decide +kernel
theorem d_Shor_readFirst_0 : decode b_Shor_readFirst 0 = .ok (.bipush 8, 2) := by decide +kernel
theorem d_Shor_readFirst_2 : decode b_Shor_readFirst 2 = .ok (.iload_n 0, 1) := by decide +kernel
theorem d_Shor_readFirst_3 : decode b_Shor_readFirst 3 = .ok (.iconst 2, 1) := by decide +kernel
theorem d_Shor_readFirst_4 : decode b_Shor_readFirst 4 = .ok (.iushr, 1) := by decide +kernel
theorem d_Shor_readFirst_5 : decode b_Shor_readFirst 5 = .ok (.bipush 7, 2) := by decide +kernel
theorem d_Shor_readFirst_7 : decode b_Shor_readFirst 7 = .ok (.iand, 1) := by decide +kernel
theorem d_Shor_readFirst_8 : decode b_Shor_readFirst 8 = .ok (.iadd, 1) := by decide +kernel
theorem d_Shor_readFirst_9 : decode b_Shor_readFirst 9 = .ok (.istore_n 2, 1) := by decide +kernel
theorem d_Shor_readFirst_10 : decode b_Shor_readFirst 10 = .ok (.bipush 8, 2) := by decide +kernel
theorem d_Shor_readFirst_12 : decode b_Shor_readFirst 12 = .ok (.iload_n 0, 1) := by decide +kernel
theorem d_Shor_readFirst_13 : decode b_Shor_readFirst 13 = .ok (.bipush 7, 2) := by decide +kernel
theorem d_Shor_readFirst_15 : decode b_Shor_readFirst 15 = .ok (.iushr, 1) := by decide +kernel
theorem d_Shor_readFirst_16 : decode b_Shor_readFirst 16 = .ok (.bipush 7, 2) := by decide +kernel
theorem d_Shor_readFirst_18 : decode b_Shor_readFirst 18 = .ok (.iand, 1) := by decide +kernel
theorem d_Shor_readFirst_19 : decode b_Shor_readFirst 19 = .ok (.iadd, 1) := by decide +kernel
theorem d_Shor_readFirst_20 : decode b_Shor_readFirst 20 = .ok (.istore_n 3, 1) := by decide +kernel
theorem d_Shor_readFirst_21 : decode b_Shor_readFirst 21 = .ok (.iload_n 0, 1) := by decide +kernel
theorem d_Shor_readFirst_22 : decode b_Shor_readFirst 22 = .ok (.bipush 10, 2) := by decide +kernel
theorem d_Shor_readFirst_24 : decode b_Shor_readFirst 24 = .ok (.iconst 3, 1) := by decide +kernel
theorem d_Shor_readFirst_25 : decode b_Shor_readFirst 25 = .ok (.iconst 3, 1) := by decide +kernel
theorem d_Shor_readFirst_26 : decode b_Shor_readFirst 26 = .ok (.invokestatic 25, 3) := by decide +kernel
theorem d_Shor_readFirst_29 : decode b_Shor_readFirst 29 = .ok (.iload_n 0, 1) := by decide +kernel
theorem d_Shor_readFirst_30 : decode b_Shor_readFirst 30 = .ok (.bipush 6, 2) := by decide +kernel
theorem d_Shor_readFirst_32 : decode b_Shor_readFirst 32 = .ok (.iconst 1, 1) := by decide +kernel
theorem d_Shor_readFirst_33 : decode b_Shor_readFirst 33 = .ok (.iconst 2, 1) := by decide +kernel
theorem d_Shor_readFirst_34 : decode b_Shor_readFirst 34 = .ok (.invokestatic 25, 3) := by decide +kernel
theorem d_Shor_readFirst_37 : decode b_Shor_readFirst 37 = .ok (.ior, 1) := by decide +kernel
theorem d_Shor_readFirst_38 : decode b_Shor_readFirst 38 = .ok (.iload_n 0, 1) := by decide +kernel
theorem d_Shor_readFirst_39 : decode b_Shor_readFirst 39 = .ok (.iconst 5, 1) := by decide +kernel
theorem d_Shor_readFirst_40 : decode b_Shor_readFirst 40 = .ok (.iconst 1, 1) := by decide +kernel
theorem d_Shor_readFirst_41 : decode b_Shor_readFirst 41 = .ok (.bipush 6, 2) := by decide +kernel
theorem d_Shor_readFirst_43 : decode b_Shor_readFirst 43 = .ok (.invokestatic 25, 3) := by decide +kernel
theorem d_Shor_readFirst_46 : decode b_Shor_readFirst 46 = .ok (.ior, 1) := by decide +kernel
theorem d_Shor_readFirst_47 : decode b_Shor_readFirst 47 = .ok (.istore 4, 2) := by decide +kernel
theorem d_Shor_readFirst_49 : decode b_Shor_readFirst 49 = .ok (.iload_n 0, 1) := by decide +kernel
theorem d_Shor_readFirst_50 : decode b_Shor_readFirst 50 = .ok (.bipush 13, 2) := by decide +kernel
theorem d_Shor_readFirst_52 : decode b_Shor_readFirst 52 = .ok (.iushr, 1) := by decide +kernel
theorem d_Shor_readFirst_53 : decode b_Shor_readFirst 53 = .ok (.lookupswitch 72 #[(0, 35), (2, 44), (6, 58)], 35) := by decide +kernel
theorem d_Shor_readFirst_88 : decode b_Shor_readFirst 88 = .ok (.iload_n 0, 1) := by decide +kernel
theorem d_Shor_readFirst_89 : decode b_Shor_readFirst 89 = .ok (.iload_n 2, 1) := by decide +kernel
theorem d_Shor_readFirst_90 : decode b_Shor_readFirst 90 = .ok (.aload_n 1, 1) := by decide +kernel
theorem d_Shor_readFirst_91 : decode b_Shor_readFirst 91 = .ok (.invokestatic 29, 3) := by decide +kernel
theorem d_Shor_readFirst_94 : decode b_Shor_readFirst 94 = .ok (.goto 31, 3) := by decide +kernel
theorem d_Shor_readFirst_97 : decode b_Shor_readFirst 97 = .ok (.aload_n 1, 1) := by decide +kernel
theorem d_Shor_readFirst_98 : decode b_Shor_readFirst 98 = .ok (.bipush 12, 2) := by decide +kernel
theorem d_Shor_readFirst_100 : decode b_Shor_readFirst 100 = .ok (.iload_n 2, 1) := by decide +kernel
theorem d_Shor_readFirst_101 : decode b_Shor_readFirst 101 = .ok (.iload_n 3, 1) := by decide +kernel
theorem d_Shor_readFirst_102 : decode b_Shor_readFirst 102 = .ok (.iconst 0, 1) := by decide +kernel
theorem d_Shor_readFirst_103 : decode b_Shor_readFirst 103 = .ok (.iload 4, 2) := by decide +kernel
theorem d_Shor_readFirst_105 : decode b_Shor_readFirst 105 = .ok (.invokevirtual 33, 3) := by decide +kernel
theorem d_Shor_readFirst_108 : decode b_Shor_readFirst 108 = .ok (.goto 17, 3) := by decide +kernel
theorem d_Shor_readFirst_111 : decode b_Shor_readFirst 111 = .ok (.aload_n 1, 1) := by decide +kernel
theorem d_Shor_readFirst_112 : decode b_Shor_readFirst 112 = .ok (.bipush 17, 2) := by decide +kernel
theorem d_Shor_readFirst_114 : decode b_Shor_readFirst 114 = .ok (.iconst 0, 1) := by decide +kernel
theorem d_Shor_readFirst_115 : decode b_Shor_readFirst 115 = .ok (.iload_n 3, 1) := by decide +kernel
theorem d_Shor_readFirst_116 : decode b_Shor_readFirst 116 = .ok (.iload_n 2, 1) := by decide +kernel
theorem d_Shor_readFirst_117 : decode b_Shor_readFirst 117 = .ok (.iload 4, 2) := by decide +kernel
theorem d_Shor_readFirst_119 : decode b_Shor_readFirst 119 = .ok (.invokevirtual 33, 3) := by decide +kernel
theorem d_Shor_readFirst_122 : decode b_Shor_readFirst 122 = .ok (.goto 3, 3) := by decide +kernel
theorem d_Shor_readFirst_125 : decode b_Shor_readFirst 125 = .ok (.return_, 1) := by decide +kernel
theorem d_Shor_readStackAddress_0 : decode b_Shor_readStackAddress 0 = .ok (.iload_n 0, 1) := by decide +kernel
theorem d_Shor_readStackAddress_1 : decode b_Shor_readStackAddress 1 = .ok (.bipush 11, 2) := by decide +kernel
theorem d_Shor_readStackAddress_3 : decode b_Shor_readStackAddress 3 = .ok (.iconst 2, 1) := by decide +kernel
theorem d_Shor_readStackAddress_4 : decode b_Shor_readStackAddress 4 = .ok (.iconst 4, 1) := by decide +kernel
theorem d_Shor_readStackAddress_5 : decode b_Shor_readStackAddress 5 = .ok (.invokestatic 25, 3) := by decide +kernel
theorem d_Shor_readStackAddress_8 : decode b_Shor_readStackAddress 8 = .ok (.iload_n 0, 1) := by decide +kernel
theorem d_Shor_readStackAddress_9 : decode b_Shor_readStackAddress 9 = .ok (.bipush 7, 2) := by decide +kernel
theorem d_Shor_readStackAddress_11 : decode b_Shor_readStackAddress 11 = .ok (.iconst 4, 1) := by decide +kernel
theorem d_Shor_readStackAddress_12 : decode b_Shor_readStackAddress 12 = .ok (.bipush 6, 2) := by decide +kernel
theorem d_Shor_readStackAddress_14 : decode b_Shor_readStackAddress 14 = .ok (.invokestatic 25, 3) := by decide +kernel
theorem d_Shor_readStackAddress_17 : decode b_Shor_readStackAddress 17 = .ok (.ior, 1) := by decide +kernel
theorem d_Shor_readStackAddress_18 : decode b_Shor_readStackAddress 18 = .ok (.iload_n 0, 1) := by decide +kernel
theorem d_Shor_readStackAddress_19 : decode b_Shor_readStackAddress 19 = .ok (.bipush 6, 2) := by decide +kernel
theorem d_Shor_readStackAddress_21 : decode b_Shor_readStackAddress 21 = .ok (.iconst 1, 1) := by decide +kernel
theorem d_Shor_readStackAddress_22 : decode b_Shor_readStackAddress 22 = .ok (.iconst 2, 1) := by decide +kernel
theorem d_Shor_readStackAddress_23 : decode b_Shor_readStackAddress 23 = .ok (.invokestatic 25, 3) := by decide +kernel
theorem d_Shor_readStackAddress_26 : decode b_Shor_readStackAddress 26 = .ok (.ior, 1) := by decide +kernel
theorem d_Shor_readStackAddress_27 : decode b_Shor_readStackAddress 27 = .ok (.iload_n 0, 1) := by decide +kernel
theorem d_Shor_readStackAddress_28 : decode b_Shor_readStackAddress 28 = .ok (.iconst 5, 1) := by decide +kernel
theorem d_Shor_readStackAddress_29 : decode b_Shor_readStackAddress 29 = .ok (.iconst 1, 1) := by decide +kernel
theorem d_Shor_readStackAddress_30 : decode b_Shor_readStackAddress 30 = .ok (.iconst 3, 1) := by decide +kernel
theorem d_Shor_readStackAddress_31 : decode b_Shor_readStackAddress 31 = .ok (.invokestatic 25, 3) := by decide +kernel
theorem d_Shor_readStackAddress_34 : decode b_Shor_readStackAddress 34 = .ok (.ior, 1) := by decide +kernel
theorem d_Shor_readStackAddress_35 : decode b_Shor_readStackAddress 35 = .ok (.istore_n 3, 1) := by decide +kernel
theorem d_Shor_readStackAddress_36 : decode b_Shor_readStackAddress 36 = .ok (.iload_n 3, 1) := by decide +kernel
theorem d_Shor_readStackAddress_37 : decode b_Shor_readStackAddress 37 = .ok (.ifCond .eq 13, 3) := by decide +kernel
theorem d_Shor_readStackAddress_40 : decode b_Shor_readStackAddress 40 = .ok (.aload_n 2, 1) := by decide +kernel
theorem d_Shor_readStackAddress_41 : decode b_Shor_readStackAddress 41 = .ok (.bipush 18, 2) := by decide +kernel
theorem d_Shor_readStackAddress_43 : decode b_Shor_readStackAddress 43 = .ok (.iload_n 1, 1) := by decide +kernel
theorem d_Shor_readStackAddress_44 : decode b_Shor_readStackAddress 44 = .ok (.iconst 2, 1) := by decide +kernel
theorem d_Shor_readStackAddress_45 : decode b_Shor_readStackAddress 45 = .ok (.iconst 0, 1) := by decide +kernel
theorem d_Shor_readStackAddress_46 : decode b_Shor_readStackAddress 46 = .ok (.iload_n 3, 1) := by decide +kernel
theorem d_Shor_readStackAddress_47 : decode b_Shor_readStackAddress 47 = .ok (.invokevirtual 33, 3) := by decide +kernel
theorem d_Shor_readStackAddress_50 : decode b_Shor_readStackAddress 50 = .ok (.return_, 1) := by decide +kernel
theorem d_Shor_readSecond_0 : decode b_Shor_readSecond 0 = .ok (.iload_n 0, 1) := by decide +kernel
theorem d_Shor_readSecond_1 : decode b_Shor_readSecond 1 = .ok (.bipush 7, 2) := by decide +kernel
theorem d_Shor_readSecond_3 : decode b_Shor_readSecond 3 = .ok (.iushr, 1) := by decide +kernel
theorem d_Shor_readSecond_4 : decode b_Shor_readSecond 4 = .ok (.bipush 31, 2) := by decide +kernel
theorem d_Shor_readSecond_6 : decode b_Shor_readSecond 6 = .ok (.iand, 1) := by decide +kernel
theorem d_Shor_readSecond_7 : decode b_Shor_readSecond 7 = .ok (.istore_n 2, 1) := by decide +kernel
theorem d_Shor_readSecond_8 : decode b_Shor_readSecond 8 = .ok (.iload_n 0, 1) := by decide +kernel
theorem d_Shor_readSecond_9 : decode b_Shor_readSecond 9 = .ok (.invokestatic 37, 3) := by decide +kernel
theorem d_Shor_readSecond_12 : decode b_Shor_readSecond 12 = .ok (.istore_n 3, 1) := by decide +kernel
theorem d_Shor_readSecond_13 : decode b_Shor_readSecond 13 = .ok (.iload_n 0, 1) := by decide +kernel
theorem d_Shor_readSecond_14 : decode b_Shor_readSecond 14 = .ok (.bipush 13, 2) := by decide +kernel
theorem d_Shor_readSecond_16 : decode b_Shor_readSecond 16 = .ok (.iushr, 1) := by decide +kernel
theorem d_Shor_readSecond_17 : decode b_Shor_readSecond 17 = .ok (.tableswitch 169 0 7 #[47, 57, 72, 93, 103, 112, 127, 148], 47) := by decide +kernel
theorem d_Shor_readSecond_64 : decode b_Shor_readSecond 64 = .ok (.iload_n 0, 1) := by decide +kernel
theorem d_Shor_readSecond_65 : decode b_Shor_readSecond 65 = .ok (.iload_n 2, 1) := by decide +kernel
theorem d_Shor_readSecond_66 : decode b_Shor_readSecond 66 = .ok (.iload_n 3, 1) := by decide +kernel
theorem d_Shor_readSecond_67 : decode b_Shor_readSecond 67 = .ok (.aload_n 1, 1) := by decide +kernel
theorem d_Shor_readSecond_68 : decode b_Shor_readSecond 68 = .ok (.invokestatic 41, 3) := by decide +kernel
theorem d_Shor_readSecond_71 : decode b_Shor_readSecond 71 = .ok (.goto 115, 3) := by decide +kernel
theorem d_Shor_readSecond_74 : decode b_Shor_readSecond 74 = .ok (.aload_n 1, 1) := by decide +kernel
theorem d_Shor_readSecond_75 : decode b_Shor_readSecond 75 = .ok (.iconst 2, 1) := by decide +kernel
theorem d_Shor_readSecond_76 : decode b_Shor_readSecond 76 = .ok (.iconst 1, 1) := by decide +kernel
theorem d_Shor_readSecond_77 : decode b_Shor_readSecond 77 = .ok (.iconst 0, 1) := by decide +kernel
theorem d_Shor_readSecond_78 : decode b_Shor_readSecond 78 = .ok (.iconst 0, 1) := by decide +kernel
theorem d_Shor_readSecond_79 : decode b_Shor_readSecond 79 = .ok (.iload_n 0, 1) := by decide +kernel
theorem d_Shor_readSecond_80 : decode b_Shor_readSecond 80 = .ok (.invokestatic 45, 3) := by decide +kernel
theorem d_Shor_readSecond_83 : decode b_Shor_readSecond 83 = .ok (.invokevirtual 33, 3) := by decide +kernel
theorem d_Shor_readSecond_86 : decode b_Shor_readSecond 86 = .ok (.goto 100, 3) := by decide +kernel
theorem d_Shor_readSecond_89 : decode b_Shor_readSecond 89 = .ok (.aload_n 1, 1) := by decide +kernel
theorem d_Shor_readSecond_90 : decode b_Shor_readSecond 90 = .ok (.iload_n 2, 1) := by decide +kernel
theorem d_Shor_readSecond_91 : decode b_Shor_readSecond 91 = .ok (.ifCond .eq 8, 3) := by decide +kernel
theorem d_Shor_readSecond_94 : decode b_Shor_readSecond 94 = .ok (.bipush 18, 2) := by decide +kernel
theorem d_Shor_readSecond_96 : decode b_Shor_readSecond 96 = .ok (.goto 4, 3) := by decide +kernel
theorem d_Shor_readSecond_99 : decode b_Shor_readSecond 99 = .ok (.iconst (-1), 1) := by decide +kernel
theorem d_Shor_readSecond_100 : decode b_Shor_readSecond 100 = .ok (.iload_n 2, 1) := by decide +kernel
theorem d_Shor_readSecond_101 : decode b_Shor_readSecond 101 = .ok (.iconst 0, 1) := by decide +kernel
theorem d_Shor_readSecond_102 : decode b_Shor_readSecond 102 = .ok (.iconst 0, 1) := by decide +kernel
theorem d_Shor_readSecond_103 : decode b_Shor_readSecond 103 = .ok (.iload_n 3, 1) := by decide +kernel
theorem d_Shor_readSecond_104 : decode b_Shor_readSecond 104 = .ok (.invokevirtual 33, 3) := by decide +kernel
theorem d_Shor_readSecond_107 : decode b_Shor_readSecond 107 = .ok (.goto 79, 3) := by decide +kernel
theorem d_Shor_readSecond_110 : decode b_Shor_readSecond 110 = .ok (.iload_n 0, 1) := by decide +kernel
theorem d_Shor_readSecond_111 : decode b_Shor_readSecond 111 = .ok (.iload_n 2, 1) := by decide +kernel
theorem d_Shor_readSecond_112 : decode b_Shor_readSecond 112 = .ok (.iload_n 3, 1) := by decide +kernel
theorem d_Shor_readSecond_113 : decode b_Shor_readSecond 113 = .ok (.aload_n 1, 1) := by decide +kernel
theorem d_Shor_readSecond_114 : decode b_Shor_readSecond 114 = .ok (.invokestatic 48, 3) := by decide +kernel
theorem d_Shor_readSecond_117 : decode b_Shor_readSecond 117 = .ok (.goto 69, 3) := by decide +kernel
theorem d_Shor_readSecond_120 : decode b_Shor_readSecond 120 = .ok (.iload_n 0, 1) := by decide +kernel
theorem d_Shor_readSecond_121 : decode b_Shor_readSecond 121 = .ok (.iload_n 3, 1) := by decide +kernel
theorem d_Shor_readSecond_122 : decode b_Shor_readSecond 122 = .ok (.aload_n 1, 1) := by decide +kernel
theorem d_Shor_readSecond_123 : decode b_Shor_readSecond 123 = .ok (.invokestatic 51, 3) := by decide +kernel
theorem d_Shor_readSecond_126 : decode b_Shor_readSecond 126 = .ok (.goto 60, 3) := by decide +kernel
theorem d_Shor_readSecond_129 : decode b_Shor_readSecond 129 = .ok (.aload_n 1, 1) := by decide +kernel
theorem d_Shor_readSecond_130 : decode b_Shor_readSecond 130 = .ok (.iconst 2, 1) := by decide +kernel
theorem d_Shor_readSecond_131 : decode b_Shor_readSecond 131 = .ok (.iconst 0, 1) := by decide +kernel
theorem d_Shor_readSecond_132 : decode b_Shor_readSecond 132 = .ok (.iconst 0, 1) := by decide +kernel
theorem d_Shor_readSecond_133 : decode b_Shor_readSecond 133 = .ok (.iconst 0, 1) := by decide +kernel
theorem d_Shor_readSecond_134 : decode b_Shor_readSecond 134 = .ok (.iload_n 0, 1) := by decide +kernel
theorem d_Shor_readSecond_135 : decode b_Shor_readSecond 135 = .ok (.invokestatic 45, 3) := by decide +kernel
theorem d_Shor_readSecond_138 : decode b_Shor_readSecond 138 = .ok (.invokevirtual 33, 3) := by decide +kernel
theorem d_Shor_readSecond_141 : decode b_Shor_readSecond 141 = .ok (.goto 45, 3) := by decide +kernel
theorem d_Shor_readSecond_144 : decode b_Shor_readSecond 144 = .ok (.aload_n 1, 1) := by decide +kernel
theorem d_Shor_readSecond_145 : decode b_Shor_readSecond 145 = .ok (.iconst 4, 1) := by decide +kernel
theorem d_Shor_readSecond_146 : decode b_Shor_readSecond 146 = .ok (.iconst 0, 1) := by decide +kernel
theorem d_Shor_readSecond_147 : decode b_Shor_readSecond 147 = .ok (.bipush 8, 2) := by decide +kernel
theorem d_Shor_readSecond_149 : decode b_Shor_readSecond 149 = .ok (.iload_n 2, 1) := by decide +kernel
theorem d_Shor_readSecond_150 : decode b_Shor_readSecond 150 = .ok (.bipush 7, 2) := by decide +kernel
theorem d_Shor_readSecond_152 : decode b_Shor_readSecond 152 = .ok (.iand, 1) := by decide +kernel
theorem d_Shor_readSecond_153 : decode b_Shor_readSecond 153 = .ok (.iadd, 1) := by decide +kernel
theorem d_Shor_readSecond_154 : decode b_Shor_readSecond 154 = .ok (.iconst 0, 1) := by decide +kernel
theorem d_Shor_readSecond_155 : decode b_Shor_readSecond 155 = .ok (.iload_n 0, 1) := by decide +kernel
theorem d_Shor_readSecond_156 : decode b_Shor_readSecond 156 = .ok (.invokestatic 54, 3) := by decide +kernel
theorem d_Shor_readSecond_159 : decode b_Shor_readSecond 159 = .ok (.invokevirtual 33, 3) := by decide +kernel
theorem d_Shor_readSecond_162 : decode b_Shor_readSecond 162 = .ok (.goto 24, 3) := by decide +kernel
theorem d_Shor_readSecond_165 : decode b_Shor_readSecond 165 = .ok (.aload_n 1, 1) := by decide +kernel
theorem d_Shor_readSecond_166 : decode b_Shor_readSecond 166 = .ok (.iconst 5, 1) := by decide +kernel
theorem d_Shor_readSecond_167 : decode b_Shor_readSecond 167 = .ok (.iconst 0, 1) := by decide +kernel
theorem d_Shor_readSecond_168 : decode b_Shor_readSecond 168 = .ok (.bipush 8, 2) := by decide +kernel
theorem d_Shor_readSecond_170 : decode b_Shor_readSecond 170 = .ok (.iload_n 2, 1) := by decide +kernel
theorem d_Shor_readSecond_171 : decode b_Shor_readSecond 171 = .ok (.bipush 7, 2) := by decide +kernel
theorem d_Shor_readSecond_173 : decode b_Shor_readSecond 173 = .ok (.iand, 1) := by decide +kernel
theorem d_Shor_readSecond_174 : decode b_Shor_readSecond 174 = .ok (.iadd, 1) := by decide +kernel
theorem d_Shor_readSecond_175 : decode b_Shor_readSecond 175 = .ok (.iconst 0, 1) := by decide +kernel
theorem d_Shor_readSecond_176 : decode b_Shor_readSecond 176 = .ok (.iload_n 0, 1) := by decide +kernel
theorem d_Shor_readSecond_177 : decode b_Shor_readSecond 177 = .ok (.invokestatic 54, 3) := by decide +kernel
theorem d_Shor_readSecond_180 : decode b_Shor_readSecond 180 = .ok (.invokevirtual 33, 3) := by decide +kernel
theorem d_Shor_readSecond_183 : decode b_Shor_readSecond 183 = .ok (.goto 3, 3) := by decide +kernel
theorem d_Shor_readSecond_186 : decode b_Shor_readSecond 186 = .ok (.return_, 1) := by decide +kernel
theorem d_Shor_readAddition_0 : decode b_Shor_readAddition 0 = .ok (.iload_n 0, 1) := by decide +kernel
theorem d_Shor_readAddition_1 : decode b_Shor_readAddition 1 = .ok (.iconst 1, 1) := by decide +kernel
theorem d_Shor_readAddition_2 : decode b_Shor_readAddition 2 = .ok (.if_icmp .eq 11, 3) := by decide +kernel
theorem d_Shor_readAddition_5 : decode b_Shor_readAddition 5 = .ok (.iload_n 1, 1) := by decide +kernel
theorem d_Shor_readAddition_6 : decode b_Shor_readAddition 6 = .ok (.ifCond .eq 17, 3) := by decide +kernel
theorem d_Shor_readAddition_9 : decode b_Shor_readAddition 9 = .ok (.iload_n 2, 1) := by decide +kernel
theorem d_Shor_readAddition_10 : decode b_Shor_readAddition 10 = .ok (.ifCond .eq 13, 3) := by decide +kernel
theorem d_Shor_readAddition_13 : decode b_Shor_readAddition 13 = .ok (.aload_n 3, 1) := by decide +kernel
theorem d_Shor_readAddition_14 : decode b_Shor_readAddition 14 = .ok (.bipush 18, 2) := by decide +kernel
theorem d_Shor_readAddition_16 : decode b_Shor_readAddition 16 = .ok (.iload_n 1, 1) := by decide +kernel
theorem d_Shor_readAddition_17 : decode b_Shor_readAddition 17 = .ok (.iload_n 1, 1) := by decide +kernel
theorem d_Shor_readAddition_18 : decode b_Shor_readAddition 18 = .ok (.iconst 0, 1) := by decide +kernel
theorem d_Shor_readAddition_19 : decode b_Shor_readAddition 19 = .ok (.iload_n 2, 1) := by decide +kernel
theorem d_Shor_readAddition_20 : decode b_Shor_readAddition 20 = .ok (.invokevirtual 33, 3) := by decide +kernel
theorem d_Shor_readAddition_23 : decode b_Shor_readAddition 23 = .ok (.return_, 1) := by decide +kernel
theorem d_Shor_readUpper_0 : decode b_Shor_readUpper 0 = .ok (.iload_n 1, 1) := by decide +kernel
theorem d_Shor_readUpper_1 : decode b_Shor_readUpper 1 = .ok (.ifCond .eq 7, 3) := by decide +kernel
theorem d_Shor_readUpper_4 : decode b_Shor_readUpper 4 = .ok (.iload_n 2, 1) := by decide +kernel
theorem d_Shor_readUpper_5 : decode b_Shor_readUpper 5 = .ok (.ifCond .ne 4, 3) := by decide +kernel
theorem d_Shor_readUpper_8 : decode b_Shor_readUpper 8 = .ok (.return_, 1) := by decide +kernel
theorem d_Shor_readUpper_9 : decode b_Shor_readUpper 9 = .ok (.iload_n 1, 1) := by decide +kernel
theorem d_Shor_readUpper_10 : decode b_Shor_readUpper 10 = .ok (.iconst 2, 1) := by decide +kernel
theorem d_Shor_readUpper_11 : decode b_Shor_readUpper 11 = .ok (.if_icmp .ne 68, 3) := by decide +kernel
theorem d_Shor_readUpper_14 : decode b_Shor_readUpper 14 = .ok (.iload_n 0, 1) := by decide +kernel
theorem d_Shor_readUpper_15 : decode b_Shor_readUpper 15 = .ok (.bipush 12, 2) := by decide +kernel
theorem d_Shor_readUpper_17 : decode b_Shor_readUpper 17 = .ok (.iconst 1, 1) := by decide +kernel
theorem d_Shor_readUpper_18 : decode b_Shor_readUpper 18 = .ok (.bipush 9, 2) := by decide +kernel
theorem d_Shor_readUpper_20 : decode b_Shor_readUpper 20 = .ok (.invokestatic 25, 3) := by decide +kernel
theorem d_Shor_readUpper_23 : decode b_Shor_readUpper 23 = .ok (.iload_n 0, 1) := by decide +kernel
theorem d_Shor_readUpper_24 : decode b_Shor_readUpper 24 = .ok (.bipush 6, 2) := by decide +kernel
theorem d_Shor_readUpper_26 : decode b_Shor_readUpper 26 = .ok (.iconst 1, 1) := by decide +kernel
theorem d_Shor_readUpper_27 : decode b_Shor_readUpper 27 = .ok (.iconst 4, 1) := by decide +kernel
theorem d_Shor_readUpper_28 : decode b_Shor_readUpper 28 = .ok (.invokestatic 25, 3) := by decide +kernel
theorem d_Shor_readUpper_31 : decode b_Shor_readUpper 31 = .ok (.ior, 1) := by decide +kernel
theorem d_Shor_readUpper_32 : decode b_Shor_readUpper 32 = .ok (.iload_n 0, 1) := by decide +kernel
theorem d_Shor_readUpper_33 : decode b_Shor_readUpper 33 = .ok (.iconst 5, 1) := by decide +kernel
theorem d_Shor_readUpper_34 : decode b_Shor_readUpper 34 = .ok (.iconst 1, 1) := by decide +kernel
theorem d_Shor_readUpper_35 : decode b_Shor_readUpper 35 = .ok (.bipush 6, 2) := by decide +kernel
theorem d_Shor_readUpper_37 : decode b_Shor_readUpper 37 = .ok (.invokestatic 25, 3) := by decide +kernel
theorem d_Shor_readUpper_40 : decode b_Shor_readUpper 40 = .ok (.ior, 1) := by decide +kernel
theorem d_Shor_readUpper_41 : decode b_Shor_readUpper 41 = .ok (.iload_n 0, 1) := by decide +kernel
theorem d_Shor_readUpper_42 : decode b_Shor_readUpper 42 = .ok (.iconst 3, 1) := by decide +kernel
theorem d_Shor_readUpper_43 : decode b_Shor_readUpper 43 = .ok (.iconst 2, 1) := by decide +kernel
theorem d_Shor_readUpper_44 : decode b_Shor_readUpper 44 = .ok (.bipush 7, 2) := by decide +kernel
theorem d_Shor_readUpper_46 : decode b_Shor_readUpper 46 = .ok (.invokestatic 25, 3) := by decide +kernel
theorem d_Shor_readUpper_49 : decode b_Shor_readUpper 49 = .ok (.ior, 1) := by decide +kernel
theorem d_Shor_readUpper_50 : decode b_Shor_readUpper 50 = .ok (.iload_n 0, 1) := by decide +kernel
theorem d_Shor_readUpper_51 : decode b_Shor_readUpper 51 = .ok (.iconst 2, 1) := by decide +kernel
theorem d_Shor_readUpper_52 : decode b_Shor_readUpper 52 = .ok (.iconst 1, 1) := by decide +kernel
theorem d_Shor_readUpper_53 : decode b_Shor_readUpper 53 = .ok (.iconst 5, 1) := by decide +kernel
theorem d_Shor_readUpper_54 : decode b_Shor_readUpper 54 = .ok (.invokestatic 25, 3) := by decide +kernel
theorem d_Shor_readUpper_57 : decode b_Shor_readUpper 57 = .ok (.ior, 1) := by decide +kernel
theorem d_Shor_readUpper_58 : decode b_Shor_readUpper 58 = .ok (.istore 4, 2) := by decide +kernel
theorem d_Shor_readUpper_60 : decode b_Shor_readUpper 60 = .ok (.aload_n 3, 1) := by decide +kernel
theorem d_Shor_readUpper_61 : decode b_Shor_readUpper 61 = .ok (.bipush 18, 2) := by decide +kernel
theorem d_Shor_readUpper_63 : decode b_Shor_readUpper 63 = .ok (.iconst 2, 1) := by decide +kernel
theorem d_Shor_readUpper_64 : decode b_Shor_readUpper 64 = .ok (.iconst 2, 1) := by decide +kernel
theorem d_Shor_readUpper_65 : decode b_Shor_readUpper 65 = .ok (.iconst 0, 1) := by decide +kernel
theorem d_Shor_readUpper_66 : decode b_Shor_readUpper 66 = .ok (.iload 4, 2) := by decide +kernel
theorem d_Shor_readUpper_68 : decode b_Shor_readUpper 68 = .ok (.bipush 10, 2) := by decide +kernel
theorem d_Shor_readUpper_70 : decode b_Shor_readUpper 70 = .ok (.invokestatic 57, 3) := by decide +kernel
theorem d_Shor_readUpper_73 : decode b_Shor_readUpper 73 = .ok (.invokevirtual 33, 3) := by decide +kernel
theorem d_Shor_readUpper_76 : decode b_Shor_readUpper 76 = .ok (.goto 15, 3) := by decide +kernel
theorem d_Shor_readUpper_79 : decode b_Shor_readUpper 79 = .ok (.aload_n 3, 1) := by decide +kernel
theorem d_Shor_readUpper_80 : decode b_Shor_readUpper 80 = .ok (.iconst 0, 1) := by decide +kernel
theorem d_Shor_readUpper_81 : decode b_Shor_readUpper 81 = .ok (.iload_n 1, 1) := by decide +kernel
theorem d_Shor_readUpper_82 : decode b_Shor_readUpper 82 = .ok (.iconst 0, 1) := by decide +kernel
theorem d_Shor_readUpper_83 : decode b_Shor_readUpper 83 = .ok (.iconst 0, 1) := by decide +kernel
theorem d_Shor_readUpper_84 : decode b_Shor_readUpper 84 = .ok (.iload_n 2, 1) := by decide +kernel
theorem d_Shor_readUpper_85 : decode b_Shor_readUpper 85 = .ok (.ldc 61, 2) := by decide +kernel
theorem d_Shor_readUpper_87 : decode b_Shor_readUpper 87 = .ok (.iand, 1) := by decide +kernel
theorem d_Shor_readUpper_88 : decode b_Shor_readUpper 88 = .ok (.invokevirtual 33, 3) := by decide +kernel
theorem d_Shor_readUpper_91 : decode b_Shor_readUpper 91 = .ok (.return_, 1) := by decide +kernel
theorem d_Shor_readNearPair_0 : decode b_Shor_readNearPair 0 = .ok (.bipush 8, 2) := by decide +kernel
theorem d_Shor_readNearPair_2 : decode b_Shor_readNearPair 2 = .ok (.iload_n 0, 1) := by decide +kernel
theorem d_Shor_readNearPair_3 : decode b_Shor_readNearPair 3 = .ok (.bipush 7, 2) := by decide +kernel
theorem d_Shor_readNearPair_5 : decode b_Shor_readNearPair 5 = .ok (.iushr, 1) := by decide +kernel
theorem d_Shor_readNearPair_6 : decode b_Shor_readNearPair 6 = .ok (.bipush 7, 2) := by decide +kernel
theorem d_Shor_readNearPair_8 : decode b_Shor_readNearPair 8 = .ok (.iand, 1) := by decide +kernel
theorem d_Shor_readNearPair_9 : decode b_Shor_readNearPair 9 = .ok (.iadd, 1) := by decide +kernel
theorem d_Shor_readNearPair_10 : decode b_Shor_readNearPair 10 = .ok (.istore_n 3, 1) := by decide +kernel
theorem d_Shor_readNearPair_11 : decode b_Shor_readNearPair 11 = .ok (.iload_n 0, 1) := by decide +kernel
theorem d_Shor_readNearPair_12 : decode b_Shor_readNearPair 12 = .ok (.bipush 12, 2) := by decide +kernel
theorem d_Shor_readNearPair_14 : decode b_Shor_readNearPair 14 = .ok (.iushr, 1) := by decide +kernel
theorem d_Shor_readNearPair_15 : decode b_Shor_readNearPair 15 = .ok (.iconst 1, 1) := by decide +kernel
theorem d_Shor_readNearPair_16 : decode b_Shor_readNearPair 16 = .ok (.iand, 1) := by decide +kernel
theorem d_Shor_readNearPair_17 : decode b_Shor_readNearPair 17 = .ok (.ifCond .eq 7, 3) := by decide +kernel
theorem d_Shor_readNearPair_20 : decode b_Shor_readNearPair 20 = .ok (.iconst 1, 1) := by decide +kernel
theorem d_Shor_readNearPair_21 : decode b_Shor_readNearPair 21 = .ok (.goto 4, 3) := by decide +kernel
theorem d_Shor_readNearPair_24 : decode b_Shor_readNearPair 24 = .ok (.iconst 0, 1) := by decide +kernel
theorem d_Shor_readNearPair_25 : decode b_Shor_readNearPair 25 = .ok (.istore 4, 2) := by decide +kernel
theorem d_Shor_readNearPair_27 : decode b_Shor_readNearPair 27 = .ok (.iload_n 0, 1) := by decide +kernel
theorem d_Shor_readNearPair_28 : decode b_Shor_readNearPair 28 = .ok (.bipush 10, 2) := by decide +kernel
theorem d_Shor_readNearPair_30 : decode b_Shor_readNearPair 30 = .ok (.iushr, 1) := by decide +kernel
theorem d_Shor_readNearPair_31 : decode b_Shor_readNearPair 31 = .ok (.iconst 3, 1) := by decide +kernel
theorem d_Shor_readNearPair_32 : decode b_Shor_readNearPair 32 = .ok (.iand, 1) := by decide +kernel
theorem d_Shor_readNearPair_33 : decode b_Shor_readNearPair 33 = .ok (.tableswitch 78 0 2 #[27, 46, 65], 27) := by decide +kernel
theorem d_Shor_readNearPair_60 : decode b_Shor_readNearPair 60 = .ok (.aload_n 2, 1) := by decide +kernel
theorem d_Shor_readNearPair_61 : decode b_Shor_readNearPair 61 = .ok (.bipush 25, 2) := by decide +kernel
theorem d_Shor_readNearPair_63 : decode b_Shor_readNearPair 63 = .ok (.iload 4, 2) := by decide +kernel
theorem d_Shor_readNearPair_65 : decode b_Shor_readNearPair 65 = .ok (.iload_n 1, 1) := by decide +kernel
theorem d_Shor_readNearPair_66 : decode b_Shor_readNearPair 66 = .ok (.invokestatic 62, 3) := by decide +kernel
theorem d_Shor_readNearPair_69 : decode b_Shor_readNearPair 69 = .ok (.iload_n 3, 1) := by decide +kernel
theorem d_Shor_readNearPair_70 : decode b_Shor_readNearPair 70 = .ok (.iload_n 3, 1) := by decide +kernel
theorem d_Shor_readNearPair_71 : decode b_Shor_readNearPair 71 = .ok (.iconst 0, 1) := by decide +kernel
theorem d_Shor_readNearPair_72 : decode b_Shor_readNearPair 72 = .ok (.iload_n 1, 1) := by decide +kernel
theorem d_Shor_readNearPair_73 : decode b_Shor_readNearPair 73 = .ok (.invokevirtual 33, 3) := by decide +kernel
theorem d_Shor_readNearPair_76 : decode b_Shor_readNearPair 76 = .ok (.goto 61, 3) := by decide +kernel
theorem d_Shor_readNearPair_79 : decode b_Shor_readNearPair 79 = .ok (.aload_n 2, 1) := by decide +kernel
theorem d_Shor_readNearPair_80 : decode b_Shor_readNearPair 80 = .ok (.bipush 26, 2) := by decide +kernel
theorem d_Shor_readNearPair_82 : decode b_Shor_readNearPair 82 = .ok (.iload 4, 2) := by decide +kernel
theorem d_Shor_readNearPair_84 : decode b_Shor_readNearPair 84 = .ok (.iload_n 1, 1) := by decide +kernel
theorem d_Shor_readNearPair_85 : decode b_Shor_readNearPair 85 = .ok (.invokestatic 62, 3) := by decide +kernel
theorem d_Shor_readNearPair_88 : decode b_Shor_readNearPair 88 = .ok (.iload_n 3, 1) := by decide +kernel
theorem d_Shor_readNearPair_89 : decode b_Shor_readNearPair 89 = .ok (.iload_n 3, 1) := by decide +kernel
theorem d_Shor_readNearPair_90 : decode b_Shor_readNearPair 90 = .ok (.iconst 0, 1) := by decide +kernel
theorem d_Shor_readNearPair_91 : decode b_Shor_readNearPair 91 = .ok (.iload_n 1, 1) := by decide +kernel
theorem d_Shor_readNearPair_92 : decode b_Shor_readNearPair 92 = .ok (.invokevirtual 33, 3) := by decide +kernel
theorem d_Shor_readNearPair_95 : decode b_Shor_readNearPair 95 = .ok (.goto 42, 3) := by decide +kernel
theorem d_Shor_readNearPair_98 : decode b_Shor_readNearPair 98 = .ok (.aload_n 2, 1) := by decide +kernel
theorem d_Shor_readNearPair_99 : decode b_Shor_readNearPair 99 = .ok (.bipush 23, 2) := by decide +kernel
theorem d_Shor_readNearPair_101 : decode b_Shor_readNearPair 101 = .ok (.iload_n 3, 1) := by decide +kernel
theorem d_Shor_readNearPair_102 : decode b_Shor_readNearPair 102 = .ok (.iload_n 3, 1) := by decide +kernel
theorem d_Shor_readNearPair_103 : decode b_Shor_readNearPair 103 = .ok (.iconst 0, 1) := by decide +kernel
theorem d_Shor_readNearPair_104 : decode b_Shor_readNearPair 104 = .ok (.iload_n 1, 1) := by decide +kernel
theorem d_Shor_readNearPair_105 : decode b_Shor_readNearPair 105 = .ok (.invokevirtual 33, 3) := by decide +kernel
theorem d_Shor_readNearPair_108 : decode b_Shor_readNearPair 108 = .ok (.goto 29, 3) := by decide +kernel
theorem d_Shor_readNearPair_111 : decode b_Shor_readNearPair 111 = .ok (.aload_n 2, 1) := by decide +kernel
theorem d_Shor_readNearPair_112 : decode b_Shor_readNearPair 112 = .ok (.iload_n 0, 1) := by decide +kernel
theorem d_Shor_readNearPair_113 : decode b_Shor_readNearPair 113 = .ok (.iconst 5, 1) := by decide +kernel
theorem d_Shor_readNearPair_114 : decode b_Shor_readNearPair 114 = .ok (.iushr, 1) := by decide +kernel
theorem d_Shor_readNearPair_115 : decode b_Shor_readNearPair 115 = .ok (.iconst 3, 1) := by decide +kernel
theorem d_Shor_readNearPair_116 : decode b_Shor_readNearPair 116 = .ok (.iand, 1) := by decide +kernel
theorem d_Shor_readNearPair_117 : decode b_Shor_readNearPair 117 = .ok (.iload 4, 2) := by decide +kernel
theorem d_Shor_readNearPair_119 : decode b_Shor_readNearPair 119 = .ok (.invokestatic 66, 3) := by decide +kernel
theorem d_Shor_readNearPair_122 : decode b_Shor_readNearPair 122 = .ok (.iload_n 3, 1) := by decide +kernel
theorem d_Shor_readNearPair_123 : decode b_Shor_readNearPair 123 = .ok (.iload_n 3, 1) := by decide +kernel
theorem d_Shor_readNearPair_124 : decode b_Shor_readNearPair 124 = .ok (.bipush 8, 2) := by decide +kernel
theorem d_Shor_readNearPair_126 : decode b_Shor_readNearPair 126 = .ok (.iload_n 0, 1) := by decide +kernel
theorem d_Shor_readNearPair_127 : decode b_Shor_readNearPair 127 = .ok (.iconst 2, 1) := by decide +kernel
theorem d_Shor_readNearPair_128 : decode b_Shor_readNearPair 128 = .ok (.iushr, 1) := by decide +kernel
theorem d_Shor_readNearPair_129 : decode b_Shor_readNearPair 129 = .ok (.bipush 7, 2) := by decide +kernel
theorem d_Shor_readNearPair_131 : decode b_Shor_readNearPair 131 = .ok (.iand, 1) := by decide +kernel
theorem d_Shor_readNearPair_132 : decode b_Shor_readNearPair 132 = .ok (.iadd, 1) := by decide +kernel
theorem d_Shor_readNearPair_133 : decode b_Shor_readNearPair 133 = .ok (.iconst 0, 1) := by decide +kernel
theorem d_Shor_readNearPair_134 : decode b_Shor_readNearPair 134 = .ok (.invokevirtual 33, 3) := by decide +kernel
theorem d_Shor_readNearPair_137 : decode b_Shor_readNearPair 137 = .ok (.return_, 1) := by decide +kernel
theorem d_Shor_kindOfShift_0 : decode b_Shor_kindOfShift 0 = .ok (.iload_n 1, 1) := by decide +kernel
theorem d_Shor_kindOfShift_1 : decode b_Shor_kindOfShift 1 = .ok (.ifCond .ne 7, 3) := by decide +kernel
theorem d_Shor_kindOfShift_4 : decode b_Shor_kindOfShift 4 = .ok (.iload_n 2, 1) := by decide +kernel
theorem d_Shor_kindOfShift_5 : decode b_Shor_kindOfShift 5 = .ok (.ifCond .ne 7, 3) := by decide +kernel
theorem d_Shor_kindOfShift_8 : decode b_Shor_kindOfShift 8 = .ok (.iconst (-1), 1) := by decide +kernel
theorem d_Shor_kindOfShift_9 : decode b_Shor_kindOfShift 9 = .ok (.goto 4, 3) := by decide +kernel
theorem d_Shor_kindOfShift_12 : decode b_Shor_kindOfShift 12 = .ok (.iload_n 0, 1) := by decide +kernel
theorem d_Shor_kindOfShift_13 : decode b_Shor_kindOfShift 13 = .ok (.ireturn, 1) := by decide +kernel
theorem d_Shor_kindOfPair_0 : decode b_Shor_kindOfPair 0 = .ok (.iload_n 1, 1) := by decide +kernel
theorem d_Shor_kindOfPair_1 : decode b_Shor_kindOfPair 1 = .ok (.ifCond .eq 5, 3) := by decide +kernel
theorem d_Shor_kindOfPair_4 : decode b_Shor_kindOfPair 4 = .ok (.iconst (-1), 1) := by decide +kernel
theorem d_Shor_kindOfPair_5 : decode b_Shor_kindOfPair 5 = .ok (.ireturn, 1) := by decide +kernel
theorem d_Shor_kindOfPair_6 : decode b_Shor_kindOfPair 6 = .ok (.iload_n 0, 1) := by decide +kernel
theorem d_Shor_kindOfPair_7 : decode b_Shor_kindOfPair 7 = .ok (.tableswitch 34 0 2 #[25, 28, 31], 25) := by decide +kernel
theorem d_Shor_kindOfPair_32 : decode b_Shor_kindOfPair 32 = .ok (.bipush 28, 2) := by decide +kernel
theorem d_Shor_kindOfPair_34 : decode b_Shor_kindOfPair 34 = .ok (.ireturn, 1) := by decide +kernel
theorem d_Shor_kindOfPair_35 : decode b_Shor_kindOfPair 35 = .ok (.bipush 32, 2) := by decide +kernel
theorem d_Shor_kindOfPair_37 : decode b_Shor_kindOfPair 37 = .ok (.ireturn, 1) := by decide +kernel
theorem d_Shor_kindOfPair_38 : decode b_Shor_kindOfPair 38 = .ok (.bipush 35, 2) := by decide +kernel
theorem d_Shor_kindOfPair_40 : decode b_Shor_kindOfPair 40 = .ok (.ireturn, 1) := by decide +kernel
theorem d_Shor_kindOfPair_41 : decode b_Shor_kindOfPair 41 = .ok (.bipush 36, 2) := by decide +kernel
theorem d_Shor_kindOfPair_43 : decode b_Shor_kindOfPair 43 = .ok (.ireturn, 1) := by decide +kernel
theorem d_Shor_readThird_0 : decode b_Shor_readThird 0 = .ok (.iload_n 0, 1) := by decide +kernel
theorem d_Shor_readThird_1 : decode b_Shor_readThird 1 = .ok (.bipush 7, 2) := by decide +kernel
theorem d_Shor_readThird_3 : decode b_Shor_readThird 3 = .ok (.iushr, 1) := by decide +kernel
theorem d_Shor_readThird_4 : decode b_Shor_readThird 4 = .ok (.bipush 31, 2) := by decide +kernel
theorem d_Shor_readThird_6 : decode b_Shor_readThird 6 = .ok (.iand, 1) := by decide +kernel
theorem d_Shor_readThird_7 : decode b_Shor_readThird 7 = .ok (.istore_n 2, 1) := by decide +kernel
theorem d_Shor_readThird_8 : decode b_Shor_readThird 8 = .ok (.iload_n 0, 1) := by decide +kernel
theorem d_Shor_readThird_9 : decode b_Shor_readThird 9 = .ok (.iconst 2, 1) := by decide +kernel
theorem d_Shor_readThird_10 : decode b_Shor_readThird 10 = .ok (.iushr, 1) := by decide +kernel
theorem d_Shor_readThird_11 : decode b_Shor_readThird 11 = .ok (.bipush 31, 2) := by decide +kernel
theorem d_Shor_readThird_13 : decode b_Shor_readThird 13 = .ok (.iand, 1) := by decide +kernel
theorem d_Shor_readThird_14 : decode b_Shor_readThird 14 = .ok (.istore_n 3, 1) := by decide +kernel
theorem d_Shor_readThird_15 : decode b_Shor_readThird 15 = .ok (.iload_n 0, 1) := by decide +kernel
theorem d_Shor_readThird_16 : decode b_Shor_readThird 16 = .ok (.bipush 13, 2) := by decide +kernel
theorem d_Shor_readThird_18 : decode b_Shor_readThird 18 = .ok (.iushr, 1) := by decide +kernel
theorem d_Shor_readThird_19 : decode b_Shor_readThird 19 = .ok (.tableswitch 92 0 6 #[41, 92, 57, 92, 66, 92, 76], 41) := by decide +kernel
theorem d_Shor_readThird_60 : decode b_Shor_readThird 60 = .ok (.aload_n 1, 1) := by decide +kernel
theorem d_Shor_readThird_61 : decode b_Shor_readThird 61 = .ok (.iload_n 0, 1) := by decide +kernel
theorem d_Shor_readThird_62 : decode b_Shor_readThird 62 = .ok (.iload_n 2, 1) := by decide +kernel
theorem d_Shor_readThird_63 : decode b_Shor_readThird 63 = .ok (.invokestatic 70, 3) := by decide +kernel
theorem d_Shor_readThird_66 : decode b_Shor_readThird 66 = .ok (.iload_n 2, 1) := by decide +kernel
theorem d_Shor_readThird_67 : decode b_Shor_readThird 67 = .ok (.iload_n 2, 1) := by decide +kernel
theorem d_Shor_readThird_68 : decode b_Shor_readThird 68 = .ok (.iconst 0, 1) := by decide +kernel
theorem d_Shor_readThird_69 : decode b_Shor_readThird 69 = .ok (.iload_n 3, 1) := by decide +kernel
theorem d_Shor_readThird_70 : decode b_Shor_readThird 70 = .ok (.invokevirtual 33, 3) := by decide +kernel
theorem d_Shor_readThird_73 : decode b_Shor_readThird 73 = .ok (.goto 38, 3) := by decide +kernel
theorem d_Shor_readThird_76 : decode b_Shor_readThird 76 = .ok (.iload_n 0, 1) := by decide +kernel
theorem d_Shor_readThird_77 : decode b_Shor_readThird 77 = .ok (.iload_n 2, 1) := by decide +kernel
theorem d_Shor_readThird_78 : decode b_Shor_readThird 78 = .ok (.aload_n 1, 1) := by decide +kernel
theorem d_Shor_readThird_79 : decode b_Shor_readThird 79 = .ok (.invokestatic 73, 3) := by decide +kernel
theorem d_Shor_readThird_82 : decode b_Shor_readThird 82 = .ok (.goto 29, 3) := by decide +kernel
theorem d_Shor_readThird_85 : decode b_Shor_readThird 85 = .ok (.iload_n 0, 1) := by decide +kernel
theorem d_Shor_readThird_86 : decode b_Shor_readThird 86 = .ok (.iload_n 2, 1) := by decide +kernel
theorem d_Shor_readThird_87 : decode b_Shor_readThird 87 = .ok (.iload_n 3, 1) := by decide +kernel
theorem d_Shor_readThird_88 : decode b_Shor_readThird 88 = .ok (.aload_n 1, 1) := by decide +kernel
theorem d_Shor_readThird_89 : decode b_Shor_readThird 89 = .ok (.invokestatic 76, 3) := by decide +kernel
theorem d_Shor_readThird_92 : decode b_Shor_readThird 92 = .ok (.goto 19, 3) := by decide +kernel
theorem d_Shor_readThird_95 : decode b_Shor_readThird 95 = .ok (.aload_n 1, 1) := by decide +kernel
theorem d_Shor_readThird_96 : decode b_Shor_readThird 96 = .ok (.bipush 17, 2) := by decide +kernel
theorem d_Shor_readThird_98 : decode b_Shor_readThird 98 = .ok (.iconst 0, 1) := by decide +kernel
