theorem d_Shor_readThird_99 : decode b_Shor_readThird 99 = .ok (.iconst 2, 1) := by decide +kernel
theorem d_Shor_readThird_100 : decode b_Shor_readThird 100 = .ok (.iload_n 3, 1) := by decide +kernel
theorem d_Shor_readThird_101 : decode b_Shor_readThird 101 = .ok (.iload_n 0, 1) := by decide +kernel
theorem d_Shor_readThird_102 : decode b_Shor_readThird 102 = .ok (.invokestatic 79, 3) := by decide +kernel
theorem d_Shor_readThird_105 : decode b_Shor_readThird 105 = .ok (.invokevirtual 33, 3) := by decide +kernel
theorem d_Shor_readThird_108 : decode b_Shor_readThird 108 = .ok (.goto 3, 3) := by decide +kernel
theorem d_Shor_readThird_111 : decode b_Shor_readThird 111 = .ok (.return_, 1) := by decide +kernel
theorem d_Shor_readStackLoad_0 : decode b_Shor_readStackLoad 0 = .ok (.iload_n 1, 1) := by decide +kernel
theorem d_Shor_readStackLoad_1 : decode b_Shor_readStackLoad 1 = .ok (.ifCond .eq 39, 3) := by decide +kernel
theorem d_Shor_readStackLoad_4 : decode b_Shor_readStackLoad 4 = .ok (.iload_n 0, 1) := by decide +kernel
theorem d_Shor_readStackLoad_5 : decode b_Shor_readStackLoad 5 = .ok (.bipush 12, 2) := by decide +kernel
theorem d_Shor_readStackLoad_7 : decode b_Shor_readStackLoad 7 = .ok (.iconst 1, 1) := by decide +kernel
theorem d_Shor_readStackLoad_8 : decode b_Shor_readStackLoad 8 = .ok (.iconst 5, 1) := by decide +kernel
theorem d_Shor_readStackLoad_9 : decode b_Shor_readStackLoad 9 = .ok (.invokestatic 25, 3) := by decide +kernel
theorem d_Shor_readStackLoad_12 : decode b_Shor_readStackLoad 12 = .ok (.iload_n 0, 1) := by decide +kernel
theorem d_Shor_readStackLoad_13 : decode b_Shor_readStackLoad 13 = .ok (.iconst 4, 1) := by decide +kernel
theorem d_Shor_readStackLoad_14 : decode b_Shor_readStackLoad 14 = .ok (.iconst 3, 1) := by decide +kernel
theorem d_Shor_readStackLoad_15 : decode b_Shor_readStackLoad 15 = .ok (.iconst 2, 1) := by decide +kernel
theorem d_Shor_readStackLoad_16 : decode b_Shor_readStackLoad 16 = .ok (.invokestatic 25, 3) := by decide +kernel
theorem d_Shor_readStackLoad_19 : decode b_Shor_readStackLoad 19 = .ok (.ior, 1) := by decide +kernel
theorem d_Shor_readStackLoad_20 : decode b_Shor_readStackLoad 20 = .ok (.iload_n 0, 1) := by decide +kernel
theorem d_Shor_readStackLoad_21 : decode b_Shor_readStackLoad 21 = .ok (.iconst 2, 1) := by decide +kernel
theorem d_Shor_readStackLoad_22 : decode b_Shor_readStackLoad 22 = .ok (.iconst 2, 1) := by decide +kernel
theorem d_Shor_readStackLoad_23 : decode b_Shor_readStackLoad 23 = .ok (.bipush 6, 2) := by decide +kernel
theorem d_Shor_readStackLoad_25 : decode b_Shor_readStackLoad 25 = .ok (.invokestatic 25, 3) := by decide +kernel
theorem d_Shor_readStackLoad_28 : decode b_Shor_readStackLoad 28 = .ok (.ior, 1) := by decide +kernel
theorem d_Shor_readStackLoad_29 : decode b_Shor_readStackLoad 29 = .ok (.istore_n 3, 1) := by decide +kernel
theorem d_Shor_readStackLoad_30 : decode b_Shor_readStackLoad 30 = .ok (.aload_n 2, 1) := by decide +kernel
theorem d_Shor_readStackLoad_31 : decode b_Shor_readStackLoad 31 = .ok (.bipush 12, 2) := by decide +kernel
theorem d_Shor_readStackLoad_33 : decode b_Shor_readStackLoad 33 = .ok (.iload_n 1, 1) := by decide +kernel
theorem d_Shor_readStackLoad_34 : decode b_Shor_readStackLoad 34 = .ok (.iconst 2, 1) := by decide +kernel
theorem d_Shor_readStackLoad_35 : decode b_Shor_readStackLoad 35 = .ok (.iconst 0, 1) := by decide +kernel
theorem d_Shor_readStackLoad_36 : decode b_Shor_readStackLoad 36 = .ok (.iload_n 3, 1) := by decide +kernel
theorem d_Shor_readStackLoad_37 : decode b_Shor_readStackLoad 37 = .ok (.invokevirtual 33, 3) := by decide +kernel
theorem d_Shor_readStackLoad_40 : decode b_Shor_readStackLoad 40 = .ok (.return_, 1) := by decide +kernel
theorem d_Shor_shiftUp_0 : decode b_Shor_shiftUp 0 = .ok (.iload_n 1, 1) := by decide +kernel
theorem d_Shor_shiftUp_1 : decode b_Shor_shiftUp 1 = .ok (.ifCond .ne 7, 3) := by decide +kernel
theorem d_Shor_shiftUp_4 : decode b_Shor_shiftUp 4 = .ok (.iconst (-1), 1) := by decide +kernel
theorem d_Shor_shiftUp_5 : decode b_Shor_shiftUp 5 = .ok (.goto 28, 3) := by decide +kernel
theorem d_Shor_shiftUp_8 : decode b_Shor_shiftUp 8 = .ok (.bipush 24, 2) := by decide +kernel
theorem d_Shor_shiftUp_10 : decode b_Shor_shiftUp 10 = .ok (.iload_n 0, 1) := by decide +kernel
theorem d_Shor_shiftUp_11 : decode b_Shor_shiftUp 11 = .ok (.bipush 12, 2) := by decide +kernel
theorem d_Shor_shiftUp_13 : decode b_Shor_shiftUp 13 = .ok (.iushr, 1) := by decide +kernel
theorem d_Shor_shiftUp_14 : decode b_Shor_shiftUp 14 = .ok (.iconst 1, 1) := by decide +kernel
theorem d_Shor_shiftUp_15 : decode b_Shor_shiftUp 15 = .ok (.iand, 1) := by decide +kernel
theorem d_Shor_shiftUp_16 : decode b_Shor_shiftUp 16 = .ok (.ifCond .eq 7, 3) := by decide +kernel
theorem d_Shor_shiftUp_19 : decode b_Shor_shiftUp 19 = .ok (.iconst 1, 1) := by decide +kernel
theorem d_Shor_shiftUp_20 : decode b_Shor_shiftUp 20 = .ok (.goto 4, 3) := by decide +kernel
theorem d_Shor_shiftUp_23 : decode b_Shor_shiftUp 23 = .ok (.iconst 0, 1) := by decide +kernel
theorem d_Shor_shiftUp_24 : decode b_Shor_shiftUp 24 = .ok (.iload_n 0, 1) := by decide +kernel
theorem d_Shor_shiftUp_25 : decode b_Shor_shiftUp 25 = .ok (.iconst 2, 1) := by decide +kernel
theorem d_Shor_shiftUp_26 : decode b_Shor_shiftUp 26 = .ok (.iushr, 1) := by decide +kernel
theorem d_Shor_shiftUp_27 : decode b_Shor_shiftUp 27 = .ok (.bipush 31, 2) := by decide +kernel
theorem d_Shor_shiftUp_29 : decode b_Shor_shiftUp 29 = .ok (.iand, 1) := by decide +kernel
theorem d_Shor_shiftUp_30 : decode b_Shor_shiftUp 30 = .ok (.invokestatic 62, 3) := by decide +kernel
theorem d_Shor_shiftUp_33 : decode b_Shor_shiftUp 33 = .ok (.ireturn, 1) := by decide +kernel
theorem d_Shor_readPair_0 : decode b_Shor_readPair 0 = .ok (.iload_n 0, 1) := by decide +kernel
theorem d_Shor_readPair_1 : decode b_Shor_readPair 1 = .ok (.bipush 12, 2) := by decide +kernel
theorem d_Shor_readPair_3 : decode b_Shor_readPair 3 = .ok (.iushr, 1) := by decide +kernel
theorem d_Shor_readPair_4 : decode b_Shor_readPair 4 = .ok (.iconst 1, 1) := by decide +kernel
theorem d_Shor_readPair_5 : decode b_Shor_readPair 5 = .ok (.iand, 1) := by decide +kernel
theorem d_Shor_readPair_6 : decode b_Shor_readPair 6 = .ok (.ifCond .eq 7, 3) := by decide +kernel
theorem d_Shor_readPair_9 : decode b_Shor_readPair 9 = .ok (.iconst 1, 1) := by decide +kernel
theorem d_Shor_readPair_10 : decode b_Shor_readPair 10 = .ok (.goto 4, 3) := by decide +kernel
theorem d_Shor_readPair_13 : decode b_Shor_readPair 13 = .ok (.iconst 0, 1) := by decide +kernel
theorem d_Shor_readPair_14 : decode b_Shor_readPair 14 = .ok (.istore 4, 2) := by decide +kernel
theorem d_Shor_readPair_16 : decode b_Shor_readPair 16 = .ok (.iload_n 0, 1) := by decide +kernel
theorem d_Shor_readPair_17 : decode b_Shor_readPair 17 = .ok (.ldc 82, 2) := by decide +kernel
theorem d_Shor_readPair_19 : decode b_Shor_readPair 19 = .ok (.if_icmp .ne 16, 3) := by decide +kernel
theorem d_Shor_readPair_22 : decode b_Shor_readPair 22 = .ok (.aload_n 3, 1) := by decide +kernel
theorem d_Shor_readPair_23 : decode b_Shor_readPair 23 = .ok (.bipush 47, 2) := by decide +kernel
theorem d_Shor_readPair_25 : decode b_Shor_readPair 25 = .ok (.iconst 0, 1) := by decide +kernel
theorem d_Shor_readPair_26 : decode b_Shor_readPair 26 = .ok (.iconst 0, 1) := by decide +kernel
theorem d_Shor_readPair_27 : decode b_Shor_readPair 27 = .ok (.iconst 0, 1) := by decide +kernel
theorem d_Shor_readPair_28 : decode b_Shor_readPair 28 = .ok (.iconst 0, 1) := by decide +kernel
theorem d_Shor_readPair_29 : decode b_Shor_readPair 29 = .ok (.invokevirtual 33, 3) := by decide +kernel
theorem d_Shor_readPair_32 : decode b_Shor_readPair 32 = .ok (.goto 55, 3) := by decide +kernel
theorem d_Shor_readPair_35 : decode b_Shor_readPair 35 = .ok (.iload_n 1, 1) := by decide +kernel
theorem d_Shor_readPair_36 : decode b_Shor_readPair 36 = .ok (.ifCond .eq 28, 3) := by decide +kernel
theorem d_Shor_readPair_39 : decode b_Shor_readPair 39 = .ok (.iload_n 2, 1) := by decide +kernel
theorem d_Shor_readPair_40 : decode b_Shor_readPair 40 = .ok (.ifCond .ne 24, 3) := by decide +kernel
theorem d_Shor_readPair_43 : decode b_Shor_readPair 43 = .ok (.aload_n 3, 1) := by decide +kernel
theorem d_Shor_readPair_44 : decode b_Shor_readPair 44 = .ok (.iconst 3, 1) := by decide +kernel
theorem d_Shor_readPair_45 : decode b_Shor_readPair 45 = .ok (.iload 4, 2) := by decide +kernel
theorem d_Shor_readPair_47 : decode b_Shor_readPair 47 = .ok (.ifCond .eq 7, 3) := by decide +kernel
theorem d_Shor_readPair_50 : decode b_Shor_readPair 50 = .ok (.iconst 1, 1) := by decide +kernel
theorem d_Shor_readPair_51 : decode b_Shor_readPair 51 = .ok (.goto 4, 3) := by decide +kernel
theorem d_Shor_readPair_54 : decode b_Shor_readPair 54 = .ok (.iconst 0, 1) := by decide +kernel
theorem d_Shor_readPair_55 : decode b_Shor_readPair 55 = .ok (.iload_n 1, 1) := by decide +kernel
theorem d_Shor_readPair_56 : decode b_Shor_readPair 56 = .ok (.iconst 0, 1) := by decide +kernel
theorem d_Shor_readPair_57 : decode b_Shor_readPair 57 = .ok (.iconst 0, 1) := by decide +kernel
theorem d_Shor_readPair_58 : decode b_Shor_readPair 58 = .ok (.invokevirtual 33, 3) := by decide +kernel
theorem d_Shor_readPair_61 : decode b_Shor_readPair 61 = .ok (.goto 26, 3) := by decide +kernel
theorem d_Shor_readPair_64 : decode b_Shor_readPair 64 = .ok (.iload_n 1, 1) := by decide +kernel
theorem d_Shor_readPair_65 : decode b_Shor_readPair 65 = .ok (.ifCond .eq 22, 3) := by decide +kernel
theorem d_Shor_readPair_68 : decode b_Shor_readPair 68 = .ok (.aload_n 3, 1) := by decide +kernel
theorem d_Shor_readPair_69 : decode b_Shor_readPair 69 = .ok (.bipush 27, 2) := by decide +kernel
theorem d_Shor_readPair_71 : decode b_Shor_readPair 71 = .ok (.iload_n 1, 1) := by decide +kernel
theorem d_Shor_readPair_72 : decode b_Shor_readPair 72 = .ok (.iload 4, 2) := by decide +kernel
theorem d_Shor_readPair_74 : decode b_Shor_readPair 74 = .ok (.ifCond .eq 7, 3) := by decide +kernel
theorem d_Shor_readPair_77 : decode b_Shor_readPair 77 = .ok (.iload_n 1, 1) := by decide +kernel
theorem d_Shor_readPair_78 : decode b_Shor_readPair 78 = .ok (.goto 4, 3) := by decide +kernel
theorem d_Shor_readPair_81 : decode b_Shor_readPair 81 = .ok (.iconst 0, 1) := by decide +kernel
theorem d_Shor_readPair_82 : decode b_Shor_readPair 82 = .ok (.iload_n 2, 1) := by decide +kernel
theorem d_Shor_readPair_83 : decode b_Shor_readPair 83 = .ok (.iconst 0, 1) := by decide +kernel
theorem d_Shor_readPair_84 : decode b_Shor_readPair 84 = .ok (.invokevirtual 33, 3) := by decide +kernel
theorem d_Shor_readPair_87 : decode b_Shor_readPair 87 = .ok (.return_, 1) := by decide +kernel
theorem d_Shor_sixBits_0 : decode b_Shor_sixBits 0 = .ok (.iload_n 0, 1) := by decide +kernel
theorem d_Shor_sixBits_1 : decode b_Shor_sixBits 1 = .ok (.bipush 12, 2) := by decide +kernel
theorem d_Shor_sixBits_3 : decode b_Shor_sixBits 3 = .ok (.iconst 1, 1) := by decide +kernel
theorem d_Shor_sixBits_4 : decode b_Shor_sixBits 4 = .ok (.iconst 5, 1) := by decide +kernel
theorem d_Shor_sixBits_5 : decode b_Shor_sixBits 5 = .ok (.invokestatic 25, 3) := by decide +kernel
theorem d_Shor_sixBits_8 : decode b_Shor_sixBits 8 = .ok (.iload_n 0, 1) := by decide +kernel
theorem d_Shor_sixBits_9 : decode b_Shor_sixBits 9 = .ok (.iconst 2, 1) := by decide +kernel
theorem d_Shor_sixBits_10 : decode b_Shor_sixBits 10 = .ok (.iconst 5, 1) := by decide +kernel
theorem d_Shor_sixBits_11 : decode b_Shor_sixBits 11 = .ok (.iconst 0, 1) := by decide +kernel
theorem d_Shor_sixBits_12 : decode b_Shor_sixBits 12 = .ok (.invokestatic 25, 3) := by decide +kernel
theorem d_Shor_sixBits_15 : decode b_Shor_sixBits 15 = .ok (.ior, 1) := by decide +kernel
theorem d_Shor_sixBits_16 : decode b_Shor_sixBits 16 = .ok (.bipush 6, 2) := by decide +kernel
theorem d_Shor_sixBits_18 : decode b_Shor_sixBits 18 = .ok (.invokestatic 57, 3) := by decide +kernel
theorem d_Shor_sixBits_21 : decode b_Shor_sixBits 21 = .ok (.ireturn, 1) := by decide +kernel
theorem d_Shor_immediateOfJump_0 : decode b_Shor_immediateOfJump 0 = .ok (.iload_n 0, 1) := by decide +kernel
theorem d_Shor_immediateOfJump_1 : decode b_Shor_immediateOfJump 1 = .ok (.bipush 12, 2) := by decide +kernel
theorem d_Shor_immediateOfJump_3 : decode b_Shor_immediateOfJump 3 = .ok (.iconst 1, 1) := by decide +kernel
theorem d_Shor_immediateOfJump_4 : decode b_Shor_immediateOfJump 4 = .ok (.bipush 11, 2) := by decide +kernel
theorem d_Shor_immediateOfJump_6 : decode b_Shor_immediateOfJump 6 = .ok (.invokestatic 25, 3) := by decide +kernel
theorem d_Shor_immediateOfJump_9 : decode b_Shor_immediateOfJump 9 = .ok (.iload_n 0, 1) := by decide +kernel
theorem d_Shor_immediateOfJump_10 : decode b_Shor_immediateOfJump 10 = .ok (.bipush 11, 2) := by decide +kernel
theorem d_Shor_immediateOfJump_12 : decode b_Shor_immediateOfJump 12 = .ok (.iconst 1, 1) := by decide +kernel
theorem d_Shor_immediateOfJump_13 : decode b_Shor_immediateOfJump 13 = .ok (.iconst 4, 1) := by decide +kernel
theorem d_Shor_immediateOfJump_14 : decode b_Shor_immediateOfJump 14 = .ok (.invokestatic 25, 3) := by decide +kernel
theorem d_Shor_immediateOfJump_17 : decode b_Shor_immediateOfJump 17 = .ok (.ior, 1) := by decide +kernel
theorem d_Shor_immediateOfJump_18 : decode b_Shor_immediateOfJump 18 = .ok (.iload_n 0, 1) := by decide +kernel
theorem d_Shor_immediateOfJump_19 : decode b_Shor_immediateOfJump 19 = .ok (.bipush 9, 2) := by decide +kernel
theorem d_Shor_immediateOfJump_21 : decode b_Shor_immediateOfJump 21 = .ok (.iconst 2, 1) := by decide +kernel
theorem d_Shor_immediateOfJump_22 : decode b_Shor_immediateOfJump 22 = .ok (.bipush 8, 2) := by decide +kernel
theorem d_Shor_immediateOfJump_24 : decode b_Shor_immediateOfJump 24 = .ok (.invokestatic 25, 3) := by decide +kernel
theorem d_Shor_immediateOfJump_27 : decode b_Shor_immediateOfJump 27 = .ok (.ior, 1) := by decide +kernel
theorem d_Shor_immediateOfJump_28 : decode b_Shor_immediateOfJump 28 = .ok (.iload_n 0, 1) := by decide +kernel
theorem d_Shor_immediateOfJump_29 : decode b_Shor_immediateOfJump 29 = .ok (.bipush 8, 2) := by decide +kernel
theorem d_Shor_immediateOfJump_31 : decode b_Shor_immediateOfJump 31 = .ok (.iconst 1, 1) := by decide +kernel
theorem d_Shor_immediateOfJump_32 : decode b_Shor_immediateOfJump 32 = .ok (.bipush 10, 2) := by decide +kernel
theorem d_Shor_immediateOfJump_34 : decode b_Shor_immediateOfJump 34 = .ok (.invokestatic 25, 3) := by decide +kernel
theorem d_Shor_immediateOfJump_37 : decode b_Shor_immediateOfJump 37 = .ok (.ior, 1) := by decide +kernel
theorem d_Shor_immediateOfJump_38 : decode b_Shor_immediateOfJump 38 = .ok (.iload_n 0, 1) := by decide +kernel
theorem d_Shor_immediateOfJump_39 : decode b_Shor_immediateOfJump 39 = .ok (.bipush 7, 2) := by decide +kernel
theorem d_Shor_immediateOfJump_41 : decode b_Shor_immediateOfJump 41 = .ok (.iconst 1, 1) := by decide +kernel
theorem d_Shor_immediateOfJump_42 : decode b_Shor_immediateOfJump 42 = .ok (.bipush 6, 2) := by decide +kernel
theorem d_Shor_immediateOfJump_44 : decode b_Shor_immediateOfJump 44 = .ok (.invokestatic 25, 3) := by decide +kernel
theorem d_Shor_immediateOfJump_47 : decode b_Shor_immediateOfJump 47 = .ok (.ior, 1) := by decide +kernel
theorem d_Shor_immediateOfJump_48 : decode b_Shor_immediateOfJump 48 = .ok (.iload_n 0, 1) := by decide +kernel
theorem d_Shor_immediateOfJump_49 : decode b_Shor_immediateOfJump 49 = .ok (.bipush 6, 2) := by decide +kernel
theorem d_Shor_immediateOfJump_51 : decode b_Shor_immediateOfJump 51 = .ok (.iconst 1, 1) := by decide +kernel
theorem d_Shor_immediateOfJump_52 : decode b_Shor_immediateOfJump 52 = .ok (.bipush 7, 2) := by decide +kernel
theorem d_Shor_immediateOfJump_54 : decode b_Shor_immediateOfJump 54 = .ok (.invokestatic 25, 3) := by decide +kernel
theorem d_Shor_immediateOfJump_57 : decode b_Shor_immediateOfJump 57 = .ok (.ior, 1) := by decide +kernel
theorem d_Shor_immediateOfJump_58 : decode b_Shor_immediateOfJump 58 = .ok (.iload_n 0, 1) := by decide +kernel
theorem d_Shor_immediateOfJump_59 : decode b_Shor_immediateOfJump 59 = .ok (.iconst 3, 1) := by decide +kernel
theorem d_Shor_immediateOfJump_60 : decode b_Shor_immediateOfJump 60 = .ok (.iconst 3, 1) := by decide +kernel
theorem d_Shor_immediateOfJump_61 : decode b_Shor_immediateOfJump 61 = .ok (.iconst 1, 1) := by decide +kernel
theorem d_Shor_immediateOfJump_62 : decode b_Shor_immediateOfJump 62 = .ok (.invokestatic 25, 3) := by decide +kernel
theorem d_Shor_immediateOfJump_65 : decode b_Shor_immediateOfJump 65 = .ok (.ior, 1) := by decide +kernel
theorem d_Shor_immediateOfJump_66 : decode b_Shor_immediateOfJump 66 = .ok (.iload_n 0, 1) := by decide +kernel
theorem d_Shor_immediateOfJump_67 : decode b_Shor_immediateOfJump 67 = .ok (.iconst 2, 1) := by decide +kernel
theorem d_Shor_immediateOfJump_68 : decode b_Shor_immediateOfJump 68 = .ok (.iconst 1, 1) := by decide +kernel
theorem d_Shor_immediateOfJump_69 : decode b_Shor_immediateOfJump 69 = .ok (.iconst 5, 1) := by decide +kernel
theorem d_Shor_immediateOfJump_70 : decode b_Shor_immediateOfJump 70 = .ok (.invokestatic 25, 3) := by decide +kernel
theorem d_Shor_immediateOfJump_73 : decode b_Shor_immediateOfJump 73 = .ok (.ior, 1) := by decide +kernel
theorem d_Shor_immediateOfJump_74 : decode b_Shor_immediateOfJump 74 = .ok (.istore_n 1, 1) := by decide +kernel
theorem d_Shor_immediateOfJump_75 : decode b_Shor_immediateOfJump 75 = .ok (.iload_n 1, 1) := by decide +kernel
theorem d_Shor_immediateOfJump_76 : decode b_Shor_immediateOfJump 76 = .ok (.bipush 12, 2) := by decide +kernel
theorem d_Shor_immediateOfJump_78 : decode b_Shor_immediateOfJump 78 = .ok (.invokestatic 57, 3) := by decide +kernel
theorem d_Shor_immediateOfJump_81 : decode b_Shor_immediateOfJump 81 = .ok (.ireturn, 1) := by decide +kernel
theorem d_Shor_immediateOfBranch_0 : decode b_Shor_immediateOfBranch 0 = .ok (.iload_n 0, 1) := by decide +kernel
theorem d_Shor_immediateOfBranch_1 : decode b_Shor_immediateOfBranch 1 = .ok (.bipush 12, 2) := by decide +kernel
theorem d_Shor_immediateOfBranch_3 : decode b_Shor_immediateOfBranch 3 = .ok (.iconst 1, 1) := by decide +kernel
theorem d_Shor_immediateOfBranch_4 : decode b_Shor_immediateOfBranch 4 = .ok (.bipush 8, 2) := by decide +kernel
theorem d_Shor_immediateOfBranch_6 : decode b_Shor_immediateOfBranch 6 = .ok (.invokestatic 25, 3) := by decide +kernel
theorem d_Shor_immediateOfBranch_9 : decode b_Shor_immediateOfBranch 9 = .ok (.iload_n 0, 1) := by decide +kernel
theorem d_Shor_immediateOfBranch_10 : decode b_Shor_immediateOfBranch 10 = .ok (.bipush 10, 2) := by decide +kernel
theorem d_Shor_immediateOfBranch_12 : decode b_Shor_immediateOfBranch 12 = .ok (.iconst 2, 1) := by decide +kernel
theorem d_Shor_immediateOfBranch_13 : decode b_Shor_immediateOfBranch 13 = .ok (.iconst 3, 1) := by decide +kernel
theorem d_Shor_immediateOfBranch_14 : decode b_Shor_immediateOfBranch 14 = .ok (.invokestatic 25, 3) := by decide +kernel
theorem d_Shor_immediateOfBranch_17 : decode b_Shor_immediateOfBranch 17 = .ok (.ior, 1) := by decide +kernel
theorem d_Shor_immediateOfBranch_18 : decode b_Shor_immediateOfBranch 18 = .ok (.iload_n 0, 1) := by decide +kernel
theorem d_Shor_immediateOfBranch_19 : decode b_Shor_immediateOfBranch 19 = .ok (.iconst 5, 1) := by decide +kernel
theorem d_Shor_immediateOfBranch_20 : decode b_Shor_immediateOfBranch 20 = .ok (.iconst 2, 1) := by decide +kernel
theorem d_Shor_immediateOfBranch_21 : decode b_Shor_immediateOfBranch 21 = .ok (.bipush 6, 2) := by decide +kernel
theorem d_Shor_immediateOfBranch_23 : decode b_Shor_immediateOfBranch 23 = .ok (.invokestatic 25, 3) := by decide +kernel
theorem d_Shor_immediateOfBranch_26 : decode b_Shor_immediateOfBranch 26 = .ok (.ior, 1) := by decide +kernel
theorem d_Shor_immediateOfBranch_27 : decode b_Shor_immediateOfBranch 27 = .ok (.iload_n 0, 1) := by decide +kernel
theorem d_Shor_immediateOfBranch_28 : decode b_Shor_immediateOfBranch 28 = .ok (.iconst 3, 1) := by decide +kernel
theorem d_Shor_immediateOfBranch_29 : decode b_Shor_immediateOfBranch 29 = .ok (.iconst 2, 1) := by decide +kernel
theorem d_Shor_immediateOfBranch_30 : decode b_Shor_immediateOfBranch 30 = .ok (.iconst 1, 1) := by decide +kernel
theorem d_Shor_immediateOfBranch_31 : decode b_Shor_immediateOfBranch 31 = .ok (.invokestatic 25, 3) := by decide +kernel
theorem d_Shor_immediateOfBranch_34 : decode b_Shor_immediateOfBranch 34 = .ok (.ior, 1) := by decide +kernel
theorem d_Shor_immediateOfBranch_35 : decode b_Shor_immediateOfBranch 35 = .ok (.iload_n 0, 1) := by decide +kernel
theorem d_Shor_immediateOfBranch_36 : decode b_Shor_immediateOfBranch 36 = .ok (.iconst 2, 1) := by decide +kernel
theorem d_Shor_immediateOfBranch_37 : decode b_Shor_immediateOfBranch 37 = .ok (.iconst 1, 1) := by decide +kernel
theorem d_Shor_immediateOfBranch_38 : decode b_Shor_immediateOfBranch 38 = .ok (.iconst 5, 1) := by decide +kernel
theorem d_Shor_immediateOfBranch_39 : decode b_Shor_immediateOfBranch 39 = .ok (.invokestatic 25, 3) := by decide +kernel
theorem d_Shor_immediateOfBranch_42 : decode b_Shor_immediateOfBranch 42 = .ok (.ior, 1) := by decide +kernel
theorem d_Shor_immediateOfBranch_43 : decode b_Shor_immediateOfBranch 43 = .ok (.istore_n 1, 1) := by decide +kernel
theorem d_Shor_immediateOfBranch_44 : decode b_Shor_immediateOfBranch 44 = .ok (.iload_n 1, 1) := by decide +kernel
theorem d_Shor_immediateOfBranch_45 : decode b_Shor_immediateOfBranch 45 = .ok (.bipush 9, 2) := by decide +kernel
theorem d_Shor_immediateOfBranch_47 : decode b_Shor_immediateOfBranch 47 = .ok (.invokestatic 57, 3) := by decide +kernel
theorem d_Shor_immediateOfBranch_50 : decode b_Shor_immediateOfBranch 50 = .ok (.ireturn, 1) := by decide +kernel
theorem d_Shor_immediateOfStackStore_0 : decode b_Shor_immediateOfStackStore 0 = .ok (.iload_n 0, 1) := by decide +kernel
theorem d_Shor_immediateOfStackStore_1 : decode b_Shor_immediateOfStackStore 1 = .ok (.bipush 9, 2) := by decide +kernel
theorem d_Shor_immediateOfStackStore_3 : decode b_Shor_immediateOfStackStore 3 = .ok (.iconst 4, 1) := by decide +kernel
theorem d_Shor_immediateOfStackStore_4 : decode b_Shor_immediateOfStackStore 4 = .ok (.iconst 2, 1) := by decide +kernel
theorem d_Shor_immediateOfStackStore_5 : decode b_Shor_immediateOfStackStore 5 = .ok (.invokestatic 25, 3) := by decide +kernel
theorem d_Shor_immediateOfStackStore_8 : decode b_Shor_immediateOfStackStore 8 = .ok (.iload_n 0, 1) := by decide +kernel
theorem d_Shor_immediateOfStackStore_9 : decode b_Shor_immediateOfStackStore 9 = .ok (.bipush 7, 2) := by decide +kernel
theorem d_Shor_immediateOfStackStore_11 : decode b_Shor_immediateOfStackStore 11 = .ok (.iconst 2, 1) := by decide +kernel
theorem d_Shor_immediateOfStackStore_12 : decode b_Shor_immediateOfStackStore 12 = .ok (.bipush 6, 2) := by decide +kernel
theorem d_Shor_immediateOfStackStore_14 : decode b_Shor_immediateOfStackStore 14 = .ok (.invokestatic 25, 3) := by decide +kernel
theorem d_Shor_immediateOfStackStore_17 : decode b_Shor_immediateOfStackStore 17 = .ok (.ior, 1) := by decide +kernel
theorem d_Shor_immediateOfStackStore_18 : decode b_Shor_immediateOfStackStore 18 = .ok (.ireturn, 1) := by decide +kernel
theorem d_Trai_init_0 : decode b_Trai_init 0 = .ok (.aload_n 0, 1) := by decide +kernel
theorem d_Trai_init_1 : decode b_Trai_init 1 = .ok (.invokespecial 1, 3) := by decide +kernel
theorem d_Trai_init_4 : decode b_Trai_init 4 = .ok (.aload_n 0, 1) := by decide +kernel
theorem d_Trai_init_5 : decode b_Trai_init 5 = .ok (.bipush 100, 2) := by decide +kernel
theorem d_Trai_init_7 : decode b_Trai_init 7 = .ok (.anewarray 9, 3) := by decide +kernel
theorem d_Trai_init_10 : decode b_Trai_init 10 = .ok (.putfield 11, 3) := by decide +kernel
theorem d_Trai_init_13 : decode b_Trai_init 13 = .ok (.iconst 0, 1) := by decide +kernel
theorem d_Trai_init_14 : decode b_Trai_init 14 = .ok (.istore_n 1, 1) := by decide +kernel
theorem d_Trai_init_15 : decode b_Trai_init 15 = .ok (.iload_n 1, 1) := by decide +kernel
theorem d_Trai_init_16 : decode b_Trai_init 16 = .ok (.bipush 100, 2) := by decide +kernel
theorem d_Trai_init_18 : decode b_Trai_init 18 = .ok (.if_icmp .ge 22, 3) := by decide +kernel
theorem d_Trai_init_21 : decode b_Trai_init 21 = .ok (.aload_n 0, 1) := by decide +kernel
theorem d_Trai_init_22 : decode b_Trai_init 22 = .ok (.getfield 11, 3) := by decide +kernel
theorem d_Trai_init_25 : decode b_Trai_init 25 = .ok (.iload_n 1, 1) := by decide +kernel
theorem d_Trai_init_26 : decode b_Trai_init 26 = .ok (.new 9, 3) := by decide +kernel
theorem d_Trai_init_29 : decode b_Trai_init 29 = .ok (.dup, 1) := by decide +kernel
theorem d_Trai_init_30 : decode b_Trai_init 30 = .ok (.invokespecial 15, 3) := by decide +kernel
theorem d_Trai_init_33 : decode b_Trai_init 33 = .ok (.aastore, 1) := by decide +kernel
theorem d_Trai_init_34 : decode b_Trai_init 34 = .ok (.iinc 1 1, 3) := by decide +kernel
theorem d_Trai_init_37 : decode b_Trai_init 37 = .ok (.goto (-22), 3) := by decide +kernel
theorem d_Trai_init_40 : decode b_Trai_init 40 = .ok (.return_, 1) := by decide +kernel
theorem d_Trai_open_0 : decode b_Trai_open 0 = .ok (.aload_n 0, 1) := by decide +kernel
theorem d_Trai_open_1 : decode b_Trai_open 1 = .ok (.getfield 11, 3) := by decide +kernel
theorem d_Trai_open_4 : decode b_Trai_open 4 = .ok (.aload_n 0, 1) := by decide +kernel
theorem d_Trai_open_5 : decode b_Trai_open 5 = .ok (.getfield 16, 3) := by decide +kernel
theorem d_Trai_open_8 : decode b_Trai_open 8 = .ok (.invokestatic 20, 3) := by decide +kernel
theorem d_Trai_open_11 : decode b_Trai_open 11 = .ok (.aaload, 1) := by decide +kernel
theorem d_Trai_open_12 : decode b_Trai_open 12 = .ok (.astore_n 1, 1) := by decide +kernel
theorem d_Trai_open_13 : decode b_Trai_open 13 = .ok (.aload_n 0, 1) := by decide +kernel
theorem d_Trai_open_14 : decode b_Trai_open 14 = .ok (.aload_n 0, 1) := by decide +kernel
theorem d_Trai_open_15 : decode b_Trai_open 15 = .ok (.getfield 16, 3) := by decide +kernel
theorem d_Trai_open_18 : decode b_Trai_open 18 = .ok (.iconst 1, 1) := by decide +kernel
theorem d_Trai_open_19 : decode b_Trai_open 19 = .ok (.iadd, 1) := by decide +kernel
theorem d_Trai_open_20 : decode b_Trai_open 20 = .ok (.invokestatic 20, 3) := by decide +kernel
theorem d_Trai_open_23 : decode b_Trai_open 23 = .ok (.putfield 16, 3) := by decide +kernel
theorem d_Trai_open_26 : decode b_Trai_open 26 = .ok (.aload_n 0, 1) := by decide +kernel
theorem d_Trai_open_27 : decode b_Trai_open 27 = .ok (.getfield 24, 3) := by decide +kernel
theorem d_Trai_open_30 : decode b_Trai_open 30 = .ok (.bipush 100, 2) := by decide +kernel
theorem d_Trai_open_32 : decode b_Trai_open 32 = .ok (.if_icmp .ge 13, 3) := by decide +kernel
theorem d_Trai_open_35 : decode b_Trai_open 35 = .ok (.aload_n 0, 1) := by decide +kernel
theorem d_Trai_open_36 : decode b_Trai_open 36 = .ok (.dup, 1) := by decide +kernel
theorem d_Trai_open_37 : decode b_Trai_open 37 = .ok (.getfield 24, 3) := by decide +kernel
theorem d_Trai_open_40 : decode b_Trai_open 40 = .ok (.iconst 1, 1) := by decide +kernel
theorem d_Trai_open_41 : decode b_Trai_open 41 = .ok (.iadd, 1) := by decide +kernel
theorem d_Trai_open_42 : decode b_Trai_open 42 = .ok (.putfield 24, 3) := by decide +kernel
theorem d_Trai_open_45 : decode b_Trai_open 45 = .ok (.aload_n 1, 1) := by decide +kernel
theorem d_Trai_open_46 : decode b_Trai_open 46 = .ok (.areturn, 1) := by decide +kernel
theorem d_Trai_takeLatest_0 : decode b_Trai_takeLatest 0 = .ok (.aload_n 0, 1) := by decide +kernel
theorem d_Trai_takeLatest_1 : decode b_Trai_takeLatest 1 = .ok (.getfield 24, 3) := by decide +kernel
theorem d_Trai_takeLatest_4 : decode b_Trai_takeLatest 4 = .ok (.ifCond .ne 5, 3) := by decide +kernel
theorem d_Trai_takeLatest_7 : decode b_Trai_takeLatest 7 = .ok (.aconst_null, 1) := by decide +kernel
theorem d_Trai_takeLatest_8 : decode b_Trai_takeLatest 8 = .ok (.areturn, 1) := by decide +kernel
theorem d_Trai_takeLatest_9 : decode b_Trai_takeLatest 9 = .ok (.aload_n 0, 1) := by decide +kernel
theorem d_Trai_takeLatest_10 : decode b_Trai_takeLatest 10 = .ok (.dup, 1) := by decide +kernel
theorem d_Trai_takeLatest_11 : decode b_Trai_takeLatest 11 = .ok (.getfield 24, 3) := by decide +kernel
theorem d_Trai_takeLatest_14 : decode b_Trai_takeLatest 14 = .ok (.iconst 1, 1) := by decide +kernel
theorem d_Trai_takeLatest_15 : decode b_Trai_takeLatest 15 = .ok (.isub, 1) := by decide +kernel
theorem d_Trai_takeLatest_16 : decode b_Trai_takeLatest 16 = .ok (.putfield 24, 3) := by decide +kernel
theorem d_Trai_takeLatest_19 : decode b_Trai_takeLatest 19 = .ok (.aload_n 0, 1) := by decide +kernel
theorem d_Trai_takeLatest_20 : decode b_Trai_takeLatest 20 = .ok (.aload_n 0, 1) := by decide +kernel
theorem d_Trai_takeLatest_21 : decode b_Trai_takeLatest 21 = .ok (.getfield 16, 3) := by decide +kernel
theorem d_Trai_takeLatest_24 : decode b_Trai_takeLatest 24 = .ok (.iconst 1, 1) := by decide +kernel
theorem d_Trai_takeLatest_25 : decode b_Trai_takeLatest 25 = .ok (.isub, 1) := by decide +kernel
theorem d_Trai_takeLatest_26 : decode b_Trai_takeLatest 26 = .ok (.invokestatic 20, 3) := by decide +kernel
theorem d_Trai_takeLatest_29 : decode b_Trai_takeLatest 29 = .ok (.putfield 16, 3) := by decide +kernel
theorem d_Trai_takeLatest_32 : decode b_Trai_takeLatest 32 = .ok (.aload_n 0, 1) := by decide +kernel
theorem d_Trai_takeLatest_33 : decode b_Trai_takeLatest 33 = .ok (.getfield 11, 3) := by decide +kernel
theorem d_Trai_takeLatest_36 : decode b_Trai_takeLatest 36 = .ok (.aload_n 0, 1) := by decide +kernel
theorem d_Trai_takeLatest_37 : decode b_Trai_takeLatest 37 = .ok (.getfield 16, 3) := by decide +kernel
theorem d_Trai_takeLatest_40 : decode b_Trai_takeLatest 40 = .ok (.aaload, 1) := by decide +kernel
theorem d_Trai_takeLatest_41 : decode b_Trai_takeLatest 41 = .ok (.areturn, 1) := by decide +kernel
theorem d_Trai_forget_0 : decode b_Trai_forget 0 = .ok (.aload_n 0, 1) := by decide +kernel
theorem d_Trai_forget_1 : decode b_Trai_forget 1 = .ok (.iconst 0, 1) := by decide +kernel
theorem d_Trai_forget_2 : decode b_Trai_forget 2 = .ok (.putfield 24, 3) := by decide +kernel
theorem d_Trai_forget_5 : decode b_Trai_forget 5 = .ok (.return_, 1) := by decide +kernel
theorem d_Trai_place_0 : decode b_Trai_place 0 = .ok (.iload_n 0, 1) := by decide +kernel
theorem d_Trai_place_1 : decode b_Trai_place 1 = .ok (.bipush 100, 2) := by decide +kernel
theorem d_Trai_place_3 : decode b_Trai_place 3 = .ok (.invokestatic 27, 3) := by decide +kernel
theorem d_Trai_place_6 : decode b_Trai_place 6 = .ok (.ireturn, 1) := by decide +kernel
theorem d_Word_init_0 : decode b_Word_init 0 = .ok (.aload_n 0, 1) := by decide +kernel
theorem d_Word_init_1 : decode b_Word_init 1 = .ok (.invokespecial 1, 3) := by decide +kernel
theorem d_Word_init_4 : decode b_Word_init 4 = .ok (.return_, 1) := by decide +kernel
theorem d_Word_isLong_0 : decode b_Word_isLong 0 = .ok (.iload_n 0, 1) := by decide +kernel
theorem d_Word_isLong_1 : decode b_Word_isLong 1 = .ok (.iconst 3, 1) := by decide +kernel
theorem d_Word_isLong_2 : decode b_Word_isLong 2 = .ok (.iand, 1) := by decide +kernel
theorem d_Word_isLong_3 : decode b_Word_isLong 3 = .ok (.iconst 3, 1) := by decide +kernel
theorem d_Word_isLong_4 : decode b_Word_isLong 4 = .ok (.if_icmp .ne 7, 3) := by decide +kernel
theorem d_Word_isLong_7 : decode b_Word_isLong 7 = .ok (.iconst 1, 1) := by decide +kernel
theorem d_Word_isLong_8 : decode b_Word_isLong 8 = .ok (.goto 4, 3) := by decide +kernel
theorem d_Word_isLong_11 : decode b_Word_isLong 11 = .ok (.iconst 0, 1) := by decide +kernel
theorem d_Word_isLong_12 : decode b_Word_isLong 12 = .ok (.ireturn, 1) := by decide +kernel
theorem d_Word_clear_0 : decode b_Word_clear 0 = .ok (.aload_n 0, 1) := by decide +kernel
theorem d_Word_clear_1 : decode b_Word_clear 1 = .ok (.iload_n 1, 1) := by decide +kernel
theorem d_Word_clear_2 : decode b_Word_clear 2 = .ok (.putfield 7, 3) := by decide +kernel
theorem d_Word_clear_5 : decode b_Word_clear 5 = .ok (.aload_n 0, 1) := by decide +kernel
theorem d_Word_clear_6 : decode b_Word_clear 6 = .ok (.iconst (-1), 1) := by decide +kernel
theorem d_Word_clear_7 : decode b_Word_clear 7 = .ok (.iconst 0, 1) := by decide +kernel
theorem d_Word_clear_8 : decode b_Word_clear 8 = .ok (.iconst 0, 1) := by decide +kernel
theorem d_Word_clear_9 : decode b_Word_clear 9 = .ok (.iconst 0, 1) := by decide +kernel
theorem d_Word_clear_10 : decode b_Word_clear 10 = .ok (.iconst 0, 1) := by decide +kernel
theorem d_Word_clear_11 : decode b_Word_clear 11 = .ok (.invokevirtual 13, 3) := by decide +kernel
theorem d_Word_clear_14 : decode b_Word_clear 14 = .ok (.return_, 1) := by decide +kernel
theorem d_Word_is_0 : decode b_Word_is 0 = .ok (.aload_n 0, 1) := by decide +kernel
theorem d_Word_is_1 : decode b_Word_is 1 = .ok (.iload_n 1, 1) := by decide +kernel
theorem d_Word_is_2 : decode b_Word_is 2 = .ok (.putfield 17, 3) := by decide +kernel
theorem d_Word_is_5 : decode b_Word_is 5 = .ok (.aload_n 0, 1) := by decide +kernel
theorem d_Word_is_6 : decode b_Word_is 6 = .ok (.iload_n 2, 1) := by decide +kernel
theorem d_Word_is_7 : decode b_Word_is 7 = .ok (.putfield 20, 3) := by decide +kernel
theorem d_Word_is_10 : decode b_Word_is 10 = .ok (.aload_n 0, 1) := by decide +kernel
theorem d_Word_is_11 : decode b_Word_is 11 = .ok (.iload_n 3, 1) := by decide +kernel
theorem d_Word_is_12 : decode b_Word_is 12 = .ok (.putfield 23, 3) := by decide +kernel
theorem d_Word_is_15 : decode b_Word_is 15 = .ok (.aload_n 0, 1) := by decide +kernel
theorem d_Word_is_16 : decode b_Word_is 16 = .ok (.iload 4, 2) := by decide +kernel
theorem d_Word_is_18 : decode b_Word_is 18 = .ok (.putfield 26, 3) := by decide +kernel
theorem d_Word_is_21 : decode b_Word_is 21 = .ok (.aload_n 0, 1) := by decide +kernel
theorem d_Word_is_22 : decode b_Word_is 22 = .ok (.iload 5, 2) := by decide +kernel
theorem d_Word_is_24 : decode b_Word_is 24 = .ok (.putfield 29, 3) := by decide +kernel
theorem d_Word_is_27 : decode b_Word_is 27 = .ok (.return_, 1) := by decide +kernel
theorem d_Word_isStore_0 : decode b_Word_isStore 0 = .ok (.aload_n 0, 1) := by decide +kernel
theorem d_Word_isStore_1 : decode b_Word_isStore 1 = .ok (.getfield 17, 3) := by decide +kernel
theorem d_Word_isStore_4 : decode b_Word_isStore 4 = .ok (.bipush 15, 2) := by decide +kernel
theorem d_Word_isStore_6 : decode b_Word_isStore 6 = .ok (.if_icmp .lt 16, 3) := by decide +kernel
theorem d_Word_isStore_9 : decode b_Word_isStore 9 = .ok (.aload_n 0, 1) := by decide +kernel
theorem d_Word_isStore_10 : decode b_Word_isStore 10 = .ok (.getfield 17, 3) := by decide +kernel
theorem d_Word_isStore_13 : decode b_Word_isStore 13 = .ok (.bipush 17, 2) := by decide +kernel
theorem d_Word_isStore_15 : decode b_Word_isStore 15 = .ok (.if_icmp .gt 7, 3) := by decide +kernel
theorem d_Word_isStore_18 : decode b_Word_isStore 18 = .ok (.iconst 1, 1) := by decide +kernel
theorem d_Word_isStore_19 : decode b_Word_isStore 19 = .ok (.goto 4, 3) := by decide +kernel
theorem d_Word_isStore_22 : decode b_Word_isStore 22 = .ok (.iconst 0, 1) := by decide +kernel
theorem d_Word_isStore_23 : decode b_Word_isStore 23 = .ok (.ireturn, 1) := by decide +kernel
theorem d_Word_accessBytes_0 : decode b_Word_accessBytes 0 = .ok (.aload_n 0, 1) := by decide +kernel
theorem d_Word_accessBytes_1 : decode b_Word_accessBytes 1 = .ok (.getfield 17, 3) := by decide +kernel
theorem d_Word_accessBytes_4 : decode b_Word_accessBytes 4 = .ok (.tableswitch 54 10 17 #[48, 50, 52, 48, 50, 48, 50, 52], 48) := by decide +kernel
theorem d_Word_accessBytes_52 : decode b_Word_accessBytes 52 = .ok (.iconst 1, 1) := by decide +kernel
theorem d_Word_accessBytes_53 : decode b_Word_accessBytes 53 = .ok (.ireturn, 1) := by decide +kernel
theorem d_Word_accessBytes_54 : decode b_Word_accessBytes 54 = .ok (.iconst 2, 1) := by decide +kernel
theorem d_Word_accessBytes_55 : decode b_Word_accessBytes 55 = .ok (.ireturn, 1) := by decide +kernel
theorem d_Word_accessBytes_56 : decode b_Word_accessBytes 56 = .ok (.iconst 4, 1) := by decide +kernel
theorem d_Word_accessBytes_57 : decode b_Word_accessBytes 57 = .ok (.ireturn, 1) := by decide +kernel
theorem d_Word_accessBytes_58 : decode b_Word_accessBytes 58 = .ok (.iconst 0, 1) := by decide +kernel
theorem d_Word_accessBytes_59 : decode b_Word_accessBytes 59 = .ok (.ireturn, 1) := by decide +kernel
theorem d_Word_part_0 : decode b_Word_part 0 = .ok (.iload_n 0, 1) := by decide +kernel
theorem d_Word_part_1 : decode b_Word_part 1 = .ok (.iload_n 1, 1) := by decide +kernel
theorem d_Word_part_2 : decode b_Word_part 2 = .ok (.iushr, 1) := by decide +kernel
theorem d_Word_part_3 : decode b_Word_part 3 = .ok (.iconst 1, 1) := by decide +kernel
theorem d_Word_part_4 : decode b_Word_part 4 = .ok (.iload_n 2, 1) := by decide +kernel
theorem d_Word_part_5 : decode b_Word_part 5 = .ok (.ishl, 1) := by decide +kernel
theorem d_Word_part_6 : decode b_Word_part 6 = .ok (.iconst 1, 1) := by decide +kernel
theorem d_Word_part_7 : decode b_Word_part 7 = .ok (.isub, 1) := by decide +kernel
theorem d_Word_part_8 : decode b_Word_part 8 = .ok (.iand, 1) := by decide +kernel
theorem d_Word_part_9 : decode b_Word_part 9 = .ok (.iload_n 3, 1) := by decide +kernel
theorem d_Word_part_10 : decode b_Word_part 10 = .ok (.ishl, 1) := by decide +kernel
theorem d_Word_part_11 : decode b_Word_part 11 = .ok (.ireturn, 1) := by decide +kernel
theorem d_Word_signed_0 : decode b_Word_signed 0 = .ok (.iload_n 0, 1) := by decide +kernel
theorem d_Word_signed_1 : decode b_Word_signed 1 = .ok (.bipush 32, 2) := by decide +kernel
theorem d_Word_signed_3 : decode b_Word_signed 3 = .ok (.iload_n 1, 1) := by decide +kernel
theorem d_Word_signed_4 : decode b_Word_signed 4 = .ok (.isub, 1) := by decide +kernel
theorem d_Word_signed_5 : decode b_Word_signed 5 = .ok (.ishl, 1) := by decide +kernel
theorem d_Word_signed_6 : decode b_Word_signed 6 = .ok (.bipush 32, 2) := by decide +kernel
theorem d_Word_signed_8 : decode b_Word_signed 8 = .ok (.iload_n 1, 1) := by decide +kernel
theorem d_Word_signed_9 : decode b_Word_signed 9 = .ok (.isub, 1) := by decide +kernel
theorem d_Word_signed_10 : decode b_Word_signed 10 = .ok (.ishr, 1) := by decide +kernel
theorem d_Word_signed_11 : decode b_Word_signed 11 = .ok (.ireturn, 1) := by decide +kernel
theorem d_X_init_0 : decode b_X_init 0 = .ok (.aload_n 0, 1) := by decide +kernel
theorem d_X_init_1 : decode b_X_init 1 = .ok (.invokespecial 1, 3) := by decide +kernel
theorem d_X_init_4 : decode b_X_init 4 = .ok (.aload_n 0, 1) := by decide +kernel
theorem d_X_init_5 : decode b_X_init 5 = .ok (.new 7, 3) := by decide +kernel
theorem d_X_init_8 : decode b_X_init 8 = .ok (.dup, 1) := by decide +kernel
theorem d_X_init_9 : decode b_X_init 9 = .ok (.invokespecial 9, 3) := by decide +kernel
theorem d_X_init_12 : decode b_X_init 12 = .ok (.putfield 10, 3) := by decide +kernel
theorem d_X_init_15 : decode b_X_init 15 = .ok (.aload_n 0, 1) := by decide +kernel
theorem d_X_init_16 : decode b_X_init 16 = .ok (.new 16, 3) := by decide +kernel
theorem d_X_init_19 : decode b_X_init 19 = .ok (.dup, 1) := by decide +kernel
theorem d_X_init_20 : decode b_X_init 20 = .ok (.invokespecial 18, 3) := by decide +kernel
theorem d_X_init_23 : decode b_X_init 23 = .ok (.putfield 19, 3) := by decide +kernel
theorem d_X_init_26 : decode b_X_init 26 = .ok (.aload_n 0, 1) := by decide +kernel
theorem d_X_init_27 : decode b_X_init 27 = .ok (.new 23, 3) := by decide +kernel
theorem d_X_init_30 : decode b_X_init 30 = .ok (.dup, 1) := by decide +kernel
theorem d_X_init_31 : decode b_X_init 31 = .ok (.invokespecial 25, 3) := by decide +kernel
theorem d_X_init_34 : decode b_X_init 34 = .ok (.putfield 26, 3) := by decide +kernel
theorem d_X_init_37 : decode b_X_init 37 = .ok (.aload_n 0, 1) := by decide +kernel
theorem d_X_init_38 : decode b_X_init 38 = .ok (.new 30, 3) := by decide +kernel
theorem d_X_init_41 : decode b_X_init 41 = .ok (.dup, 1) := by decide +kernel
theorem d_X_init_42 : decode b_X_init 42 = .ok (.invokespecial 32, 3) := by decide +kernel
theorem d_X_init_45 : decode b_X_init 45 = .ok (.putfield 33, 3) := by decide +kernel
theorem d_X_init_48 : decode b_X_init 48 = .ok (.aload_n 0, 1) := by decide +kernel
theorem d_X_init_49 : decode b_X_init 49 = .ok (.new 37, 3) := by decide +kernel
theorem d_X_init_52 : decode b_X_init 52 = .ok (.dup, 1) := by decide +kernel
theorem d_X_init_53 : decode b_X_init 53 = .ok (.invokespecial 39, 3) := by decide +kernel
theorem d_X_init_56 : decode b_X_init 56 = .ok (.putfield 40, 3) := by decide +kernel
theorem d_X_init_59 : decode b_X_init 59 = .ok (.aload_n 0, 1) := by decide +kernel
theorem d_X_init_60 : decode b_X_init 60 = .ok (.new 44, 3) := by decide +kernel
theorem d_X_init_63 : decode b_X_init 63 = .ok (.dup, 1) := by decide +kernel
theorem d_X_init_64 : decode b_X_init 64 = .ok (.aload_n 0, 1) := by decide +kernel
theorem d_X_init_65 : decode b_X_init 65 = .ok (.getfield 10, 3) := by decide +kernel
theorem d_X_init_68 : decode b_X_init 68 = .ok (.aload_n 0, 1) := by decide +kernel
theorem d_X_init_69 : decode b_X_init 69 = .ok (.getfield 19, 3) := by decide +kernel
theorem d_X_init_72 : decode b_X_init 72 = .ok (.aload_n 0, 1) := by decide +kernel
theorem d_X_init_73 : decode b_X_init 73 = .ok (.getfield 33, 3) := by decide +kernel
theorem d_X_init_76 : decode b_X_init 76 = .ok (.aload_n 0, 1) := by decide +kernel
theorem d_X_init_77 : decode b_X_init 77 = .ok (.getfield 40, 3) := by decide +kernel
theorem d_X_init_80 : decode b_X_init 80 = .ok (.invokespecial 46, 3) := by decide +kernel
theorem d_X_init_83 : decode b_X_init 83 = .ok (.putfield 49, 3) := by decide +kernel
theorem d_X_init_86 : decode b_X_init 86 = .ok (.return_, 1) := by decide +kernel
theorem d_X_segment_0 : decode b_X_segment 0 = .ok (.aload_n 0, 1) := by decide +kernel
theorem d_X_segment_1 : decode b_X_segment 1 = .ok (.aload_n 0, 1) := by decide +kernel
theorem d_X_segment_2 : decode b_X_segment 2 = .ok (.getfield 19, 3) := by decide +kernel
theorem d_X_segment_5 : decode b_X_segment 5 = .ok (.iload_n 1, 1) := by decide +kernel
theorem d_X_segment_6 : decode b_X_segment 6 = .ok (.iload_n 2, 1) := by decide +kernel
theorem d_X_segment_7 : decode b_X_segment 7 = .ok (.iload_n 3, 1) := by decide +kernel
theorem d_X_segment_8 : decode b_X_segment 8 = .ok (.iload 4, 2) := by decide +kernel
theorem d_X_segment_10 : decode b_X_segment 10 = .ok (.invokevirtual 53, 3) := by decide +kernel
theorem d_X_segment_13 : decode b_X_segment 13 = .ok (.invokevirtual 57, 3) := by decide +kernel
theorem d_X_segment_16 : decode b_X_segment 16 = .ok (.ireturn, 1) := by decide +kernel
theorem d_X_mark_0 : decode b_X_mark 0 = .ok (.aload_n 0, 1) := by decide +kernel
theorem d_X_mark_1 : decode b_X_mark 1 = .ok (.aload_n 0, 1) := by decide +kernel
theorem d_X_mark_2 : decode b_X_mark 2 = .ok (.getfield 19, 3) := by decide +kernel
theorem d_X_mark_5 : decode b_X_mark 5 = .ok (.iload_n 1, 1) := by decide +kernel
theorem d_X_mark_6 : decode b_X_mark 6 = .ok (.iload_n 2, 1) := by decide +kernel
theorem d_X_mark_7 : decode b_X_mark 7 = .ok (.invokevirtual 61, 3) := by decide +kernel
theorem d_X_mark_10 : decode b_X_mark 10 = .ok (.invokevirtual 57, 3) := by decide +kernel
theorem d_X_mark_13 : decode b_X_mark 13 = .ok (.ireturn, 1) := by decide +kernel
theorem d_X_marking_0 : decode b_X_marking 0 = .ok (.aload_n 0, 1) := by decide +kernel
theorem d_X_marking_1 : decode b_X_marking 1 = .ok (.getfield 19, 3) := by decide +kernel
theorem d_X_marking_4 : decode b_X_marking 4 = .ok (.iload_n 1, 1) := by decide +kernel
theorem d_X_marking_5 : decode b_X_marking 5 = .ok (.putfield 65, 3) := by decide +kernel
theorem d_X_marking_8 : decode b_X_marking 8 = .ok (.aload_n 0, 1) := by decide +kernel
theorem d_X_marking_9 : decode b_X_marking 9 = .ok (.getfield 40, 3) := by decide +kernel
theorem d_X_marking_12 : decode b_X_marking 12 = .ok (.invokevirtual 69, 3) := by decide +kernel
theorem d_X_marking_15 : decode b_X_marking 15 = .ok (.return_, 1) := by decide +kernel
theorem d_X_poke_0 : decode b_X_poke 0 = .ok (.iload_n 2, 1) := by decide +kernel
theorem d_X_poke_1 : decode b_X_poke 1 = .ok (.iconst 1, 1) := by decide +kernel
theorem d_X_poke_2 : decode b_X_poke 2 = .ok (.if_icmp .lt 21, 3) := by decide +kernel
theorem d_X_poke_5 : decode b_X_poke 5 = .ok (.iload_n 2, 1) := by decide +kernel
theorem d_X_poke_6 : decode b_X_poke 6 = .ok (.bipush 8, 2) := by decide +kernel
theorem d_X_poke_8 : decode b_X_poke 8 = .ok (.if_icmp .gt 15, 3) := by decide +kernel
theorem d_X_poke_11 : decode b_X_poke 11 = .ok (.iload_n 1, 1) := by decide +kernel
theorem d_X_poke_12 : decode b_X_poke 12 = .ok (.ifCond .lt 11, 3) := by decide +kernel
theorem d_X_poke_15 : decode b_X_poke 15 = .ok (.iload_n 1, 1) := by decide +kernel
theorem d_X_poke_16 : decode b_X_poke 16 = .ok (.ldc 72, 2) := by decide +kernel
theorem d_X_poke_18 : decode b_X_poke 18 = .ok (.iload_n 2, 1) := by decide +kernel
theorem d_X_poke_19 : decode b_X_poke 19 = .ok (.isub, 1) := by decide +kernel
theorem d_X_poke_20 : decode b_X_poke 20 = .ok (.if_icmp .le 5, 3) := by decide +kernel
theorem d_X_poke_23 : decode b_X_poke 23 = .ok (.iconst 0, 1) := by decide +kernel
theorem d_X_poke_24 : decode b_X_poke 24 = .ok (.ireturn, 1) := by decide +kernel
theorem d_X_poke_25 : decode b_X_poke 25 = .ok (.iconst 0, 1) := by decide +kernel
theorem d_X_poke_26 : decode b_X_poke 26 = .ok (.istore 5, 2) := by decide +kernel
theorem d_X_poke_28 : decode b_X_poke 28 = .ok (.iload 5, 2) := by decide +kernel
theorem d_X_poke_30 : decode b_X_poke 30 = .ok (.iload_n 2, 1) := by decide +kernel
theorem d_X_poke_31 : decode b_X_poke 31 = .ok (.if_icmp .ge 27, 3) := by decide +kernel
theorem d_X_poke_34 : decode b_X_poke 34 = .ok (.aload_n 0, 1) := by decide +kernel
theorem d_X_poke_35 : decode b_X_poke 35 = .ok (.getfield 10, 3) := by decide +kernel
theorem d_X_poke_38 : decode b_X_poke 38 = .ok (.iload_n 1, 1) := by decide +kernel
theorem d_X_poke_39 : decode b_X_poke 39 = .ok (.iload 5, 2) := by decide +kernel
theorem d_X_poke_41 : decode b_X_poke 41 = .ok (.iadd, 1) := by decide +kernel
theorem d_X_poke_42 : decode b_X_poke 42 = .ok (.iconst 1, 1) := by decide +kernel
theorem d_X_poke_43 : decode b_X_poke 43 = .ok (.lload_n 3, 1) := by decide +kernel
theorem d_X_poke_44 : decode b_X_poke 44 = .ok (.iload 5, 2) := by decide +kernel
theorem d_X_poke_46 : decode b_X_poke 46 = .ok (.invokestatic 73, 3) := by decide +kernel
theorem d_X_poke_49 : decode b_X_poke 49 = .ok (.invokevirtual 77, 3) := by decide +kernel
theorem d_X_poke_52 : decode b_X_poke 52 = .ok (.iinc 5 1, 3) := by decide +kernel
theorem d_X_poke_55 : decode b_X_poke 55 = .ok (.goto (-27), 3) := by decide +kernel
theorem d_X_poke_58 : decode b_X_poke 58 = .ok (.aload_n 0, 1) := by decide +kernel
theorem d_X_poke_59 : decode b_X_poke 59 = .ok (.iconst 1, 1) := by decide +kernel
theorem d_X_poke_60 : decode b_X_poke 60 = .ok (.invokevirtual 57, 3) := by decide +kernel
theorem d_X_poke_63 : decode b_X_poke 63 = .ok (.ireturn, 1) := by decide +kernel
theorem d_X_peek_0 : decode b_X_peek 0 = .ok (.iload_n 1, 1) := by decide +kernel
theorem d_X_peek_1 : decode b_X_peek 1 = .ok (.invokestatic 81, 3) := by decide +kernel
theorem d_X_peek_4 : decode b_X_peek 4 = .ok (.ifCond .eq 15, 3) := by decide +kernel
theorem d_X_peek_7 : decode b_X_peek 7 = .ok (.aload_n 0, 1) := by decide +kernel
theorem d_X_peek_8 : decode b_X_peek 8 = .ok (.getfield 10, 3) := by decide +kernel
theorem d_X_peek_11 : decode b_X_peek 11 = .ok (.iload_n 1, 1) := by decide +kernel
theorem d_X_peek_12 : decode b_X_peek 12 = .ok (.iconst 1, 1) := by decide +kernel
theorem d_X_peek_13 : decode b_X_peek 13 = .ok (.invokevirtual 85, 3) := by decide +kernel
theorem d_X_peek_16 : decode b_X_peek 16 = .ok (.goto 4, 3) := by decide +kernel
theorem d_X_peek_19 : decode b_X_peek 19 = .ok (.iconst (-1), 1) := by decide +kernel
theorem d_X_peek_20 : decode b_X_peek 20 = .ok (.ireturn, 1) := by decide +kernel
theorem d_X_set_0 : decode b_X_set 0 = .ok (.iload_n 1, 1) := by decide +kernel
theorem d_X_set_1 : decode b_X_set 1 = .ok (.bipush 33, 2) := by decide +kernel
theorem d_X_set_3 : decode b_X_set 3 = .ok (.if_icmp .ne 18, 3) := by decide +kernel
theorem d_X_set_6 : decode b_X_set 6 = .ok (.aload_n 0, 1) := by decide +kernel
theorem d_X_set_7 : decode b_X_set 7 = .ok (.getfield 49, 3) := by decide +kernel
theorem d_X_set_10 : decode b_X_set 10 = .ok (.iconst 0, 1) := by decide +kernel
theorem d_X_set_11 : decode b_X_set 11 = .ok (.iconst 0, 1) := by decide +kernel
theorem d_X_set_12 : decode b_X_set 12 = .ok (.invokevirtual 89, 3) := by decide +kernel
theorem d_X_set_15 : decode b_X_set 15 = .ok (.aload_n 0, 1) := by decide +kernel
theorem d_X_set_16 : decode b_X_set 16 = .ok (.iconst 1, 1) := by decide +kernel
theorem d_X_set_17 : decode b_X_set 17 = .ok (.invokevirtual 57, 3) := by decide +kernel
theorem d_X_set_20 : decode b_X_set 20 = .ok (.ireturn, 1) := by decide +kernel
theorem d_X_set_21 : decode b_X_set 21 = .ok (.iload_n 1, 1) := by decide +kernel
theorem d_X_set_22 : decode b_X_set 22 = .ok (.bipush 32, 2) := by decide +kernel
theorem d_X_set_24 : decode b_X_set 24 = .ok (.if_icmp .ne 16, 3) := by decide +kernel
theorem d_X_set_27 : decode b_X_set 27 = .ok (.aload_n 0, 1) := by decide +kernel
theorem d_X_set_28 : decode b_X_set 28 = .ok (.aload_n 0, 1) := by decide +kernel
theorem d_X_set_29 : decode b_X_set 29 = .ok (.getfield 49, 3) := by decide +kernel
theorem d_X_set_32 : decode b_X_set 32 = .ok (.iload_n 2, 1) := by decide +kernel
theorem d_X_set_33 : decode b_X_set 33 = .ok (.invokevirtual 93, 3) := by decide +kernel
theorem d_X_set_36 : decode b_X_set 36 = .ok (.invokevirtual 57, 3) := by decide +kernel
theorem d_X_set_39 : decode b_X_set 39 = .ok (.ireturn, 1) := by decide +kernel
theorem d_X_set_40 : decode b_X_set 40 = .ok (.aload_n 0, 1) := by decide +kernel
theorem d_X_set_41 : decode b_X_set 41 = .ok (.aload_n 0, 1) := by decide +kernel
theorem d_X_set_42 : decode b_X_set 42 = .ok (.getfield 49, 3) := by decide +kernel
theorem d_X_set_45 : decode b_X_set 45 = .ok (.iload_n 1, 1) := by decide +kernel
theorem d_X_set_46 : decode b_X_set 46 = .ok (.iload_n 2, 1) := by decide +kernel
theorem d_X_set_47 : decode b_X_set 47 = .ok (.invokevirtual 96, 3) := by decide +kernel
theorem d_X_set_50 : decode b_X_set 50 = .ok (.invokevirtual 57, 3) := by decide +kernel
theorem d_X_set_53 : decode b_X_set 53 = .ok (.ireturn, 1) := by decide +kernel
theorem d_X_get_0 : decode b_X_get 0 = .ok (.iload_n 1, 1) := by decide +kernel
theorem d_X_get_1 : decode b_X_get 1 = .ok (.bipush 32, 2) := by decide +kernel
theorem d_X_get_3 : decode b_X_get 3 = .ok (.if_icmp .ne 13, 3) := by decide +kernel
theorem d_X_get_6 : decode b_X_get 6 = .ok (.aload_n 0, 1) := by decide +kernel
theorem d_X_get_7 : decode b_X_get 7 = .ok (.getfield 49, 3) := by decide +kernel
theorem d_X_get_10 : decode b_X_get 10 = .ok (.getfield 100, 3) := by decide +kernel
theorem d_X_get_13 : decode b_X_get 13 = .ok (.goto 11, 3) := by decide +kernel
theorem d_X_get_16 : decode b_X_get 16 = .ok (.aload_n 0, 1) := by decide +kernel
theorem d_X_get_17 : decode b_X_get 17 = .ok (.getfield 49, 3) := by decide +kernel
theorem d_X_get_20 : decode b_X_get 20 = .ok (.iload_n 1, 1) := by decide +kernel
theorem d_X_get_21 : decode b_X_get 21 = .ok (.invokevirtual 104, 3) := by decide +kernel
theorem d_X_get_24 : decode b_X_get 24 = .ok (.ireturn, 1) := by decide +kernel
theorem d_X_input_0 : decode b_X_input 0 = .ok (.iload_n 1, 1) := by decide +kernel
theorem d_X_input_1 : decode b_X_input 1 = .ok (.iconst 1, 1) := by decide +kernel
theorem d_X_input_2 : decode b_X_input 2 = .ok (.if_icmp .lt 20, 3) := by decide +kernel
theorem d_X_input_5 : decode b_X_input 5 = .ok (.iload_n 1, 1) := by decide +kernel
theorem d_X_input_6 : decode b_X_input 6 = .ok (.bipush 8, 2) := by decide +kernel
theorem d_X_input_8 : decode b_X_input 8 = .ok (.if_icmp .gt 14, 3) := by decide +kernel
theorem d_X_input_11 : decode b_X_input 11 = .ok (.aload_n 0, 1) := by decide +kernel
theorem d_X_input_12 : decode b_X_input 12 = .ok (.getfield 33, 3) := by decide +kernel
theorem d_X_input_15 : decode b_X_input 15 = .ok (.iload_n 1, 1) := by decide +kernel
theorem d_X_input_16 : decode b_X_input 16 = .ok (.invokevirtual 108, 3) := by decide +kernel
theorem d_X_input_19 : decode b_X_input 19 = .ok (.ifCond .ne 5, 3) := by decide +kernel
theorem d_X_input_22 : decode b_X_input 22 = .ok (.iconst 0, 1) := by decide +kernel
theorem d_X_input_23 : decode b_X_input 23 = .ok (.ireturn, 1) := by decide +kernel
theorem d_X_input_24 : decode b_X_input 24 = .ok (.iconst 0, 1) := by decide +kernel
theorem d_X_input_25 : decode b_X_input 25 = .ok (.istore 4, 2) := by decide +kernel
theorem d_X_input_27 : decode b_X_input 27 = .ok (.iload 4, 2) := by decide +kernel
theorem d_X_input_29 : decode b_X_input 29 = .ok (.iload_n 1, 1) := by decide +kernel
theorem d_X_input_30 : decode b_X_input 30 = .ok (.if_icmp .ge 22, 3) := by decide +kernel
theorem d_X_input_33 : decode b_X_input 33 = .ok (.aload_n 0, 1) := by decide +kernel
theorem d_X_input_34 : decode b_X_input 34 = .ok (.getfield 33, 3) := by decide +kernel
theorem d_X_input_37 : decode b_X_input 37 = .ok (.lload_n 2, 1) := by decide +kernel
theorem d_X_input_38 : decode b_X_input 38 = .ok (.iload 4, 2) := by decide +kernel
theorem d_X_input_40 : decode b_X_input 40 = .ok (.invokestatic 73, 3) := by decide +kernel
theorem d_X_input_43 : decode b_X_input 43 = .ok (.invokevirtual 111, 3) := by decide +kernel
theorem d_X_input_46 : decode b_X_input 46 = .ok (.iinc 4 1, 3) := by decide +kernel
theorem d_X_input_49 : decode b_X_input 49 = .ok (.goto (-22), 3) := by decide +kernel
theorem d_X_input_52 : decode b_X_input 52 = .ok (.aload_n 0, 1) := by decide +kernel
theorem d_X_input_53 : decode b_X_input 53 = .ok (.iconst 1, 1) := by decide +kernel
theorem d_X_input_54 : decode b_X_input 54 = .ok (.invokevirtual 57, 3) := by decide +kernel
theorem d_X_input_57 : decode b_X_input 57 = .ok (.ireturn, 1) := by decide +kernel
theorem d_X_halt_0 : decode b_X_halt 0 = .ok (.aload_n 0, 1) := by decide +kernel
theorem d_X_halt_1 : decode b_X_halt 1 = .ok (.iload_n 2, 1) := by decide +kernel
theorem d_X_halt_2 : decode b_X_halt 2 = .ok (.ifCond .eq 14, 3) := by decide +kernel
theorem d_X_halt_5 : decode b_X_halt 5 = .ok (.aload_n 0, 1) := by decide +kernel
theorem d_X_halt_6 : decode b_X_halt 6 = .ok (.getfield 26, 3) := by decide +kernel
theorem d_X_halt_9 : decode b_X_halt 9 = .ok (.iload_n 1, 1) := by decide +kernel
theorem d_X_halt_10 : decode b_X_halt 10 = .ok (.invokevirtual 115, 3) := by decide +kernel
theorem d_X_halt_13 : decode b_X_halt 13 = .ok (.goto 11, 3) := by decide +kernel
theorem d_X_halt_16 : decode b_X_halt 16 = .ok (.aload_n 0, 1) := by decide +kernel
theorem d_X_halt_17 : decode b_X_halt 17 = .ok (.getfield 26, 3) := by decide +kernel
theorem d_X_halt_20 : decode b_X_halt 20 = .ok (.iload_n 1, 1) := by decide +kernel
theorem d_X_halt_21 : decode b_X_halt 21 = .ok (.invokevirtual 118, 3) := by decide +kernel
theorem d_X_halt_24 : decode b_X_halt 24 = .ok (.invokevirtual 57, 3) := by decide +kernel
theorem d_X_halt_27 : decode b_X_halt 27 = .ok (.ireturn, 1) := by decide +kernel
theorem d_X_step_0 : decode b_X_step 0 = .ok (.aload_n 0, 1) := by decide +kernel
theorem d_X_step_1 : decode b_X_step 1 = .ok (.getfield 49, 3) := by decide +kernel
theorem d_X_step_4 : decode b_X_step 4 = .ok (.invokevirtual 121, 3) := by decide +kernel
theorem d_X_step_7 : decode b_X_step 7 = .ok (.ifCond .ne 10, 3) := by decide +kernel
theorem d_X_step_10 : decode b_X_step 10 = .ok (.aload_n 0, 1) := by decide +kernel
theorem d_X_step_11 : decode b_X_step 11 = .ok (.getfield 49, 3) := by decide +kernel
theorem d_X_step_14 : decode b_X_step 14 = .ok (.invokevirtual 125, 3) := by decide +kernel
theorem d_X_step_17 : decode b_X_step 17 = .ok (.aload_n 0, 1) := by decide +kernel
theorem d_X_step_18 : decode b_X_step 18 = .ok (.getfield 49, 3) := by decide +kernel
theorem d_X_step_21 : decode b_X_step 21 = .ok (.getfield 128, 3) := by decide +kernel
theorem d_X_step_24 : decode b_X_step 24 = .ok (.ireturn, 1) := by decide +kernel
theorem d_X_run_0 : decode b_X_run 0 = .ok (.iload_n 1, 1) := by decide +kernel
theorem d_X_run_1 : decode b_X_run 1 = .ok (.ifCond .lt 10, 3) := by decide +kernel
theorem d_X_run_4 : decode b_X_run 4 = .ok (.iload_n 1, 1) := by decide +kernel
theorem d_X_run_5 : decode b_X_run 5 = .ok (.sipush 2000, 3) := by decide +kernel
theorem d_X_run_8 : decode b_X_run 8 = .ok (.if_icmp .le 5, 3) := by decide +kernel
theorem d_X_run_11 : decode b_X_run 11 = .ok (.iconst (-1), 1) := by decide +kernel
theorem d_X_run_12 : decode b_X_run 12 = .ok (.ireturn, 1) := by decide +kernel
theorem d_X_run_13 : decode b_X_run 13 = .ok (.aload_n 0, 1) := by decide +kernel
theorem d_X_run_14 : decode b_X_run 14 = .ok (.getfield 49, 3) := by decide +kernel
theorem d_X_run_17 : decode b_X_run 17 = .ok (.getfield 131, 3) := by decide +kernel
theorem d_X_run_20 : decode b_X_run 20 = .ok (.istore_n 2, 1) := by decide +kernel
theorem d_X_run_21 : decode b_X_run 21 = .ok (.iload_n 1, 1) := by decide +kernel
theorem d_X_run_22 : decode b_X_run 22 = .ok (.iconst 1, 1) := by decide +kernel
theorem d_X_run_23 : decode b_X_run 23 = .ok (.iadd, 1) := by decide +kernel
theorem d_X_run_24 : decode b_X_run 24 = .ok (.ldc 134, 2) := by decide +kernel
theorem d_X_run_26 : decode b_X_run 26 = .ok (.imul, 1) := by decide +kernel
theorem d_X_run_27 : decode b_X_run 27 = .ok (.istore_n 3, 1) := by decide +kernel
theorem d_X_run_28 : decode b_X_run 28 = .ok (.iconst 0, 1) := by decide +kernel
theorem d_X_run_29 : decode b_X_run 29 = .ok (.istore 4, 2) := by decide +kernel
theorem d_X_run_31 : decode b_X_run 31 = .ok (.iload 4, 2) := by decide +kernel
theorem d_X_run_33 : decode b_X_run 33 = .ok (.iload_n 3, 1) := by decide +kernel
theorem d_X_run_34 : decode b_X_run 34 = .ok (.if_icmp .ge 93, 3) := by decide +kernel
theorem d_X_run_37 : decode b_X_run 37 = .ok (.aload_n 0, 1) := by decide +kernel
theorem d_X_run_38 : decode b_X_run 38 = .ok (.getfield 49, 3) := by decide +kernel
theorem d_X_run_41 : decode b_X_run 41 = .ok (.invokevirtual 121, 3) := by decide +kernel
theorem d_X_run_44 : decode b_X_run 44 = .ok (.ifCond .ne 83, 3) := by decide +kernel
theorem d_X_run_47 : decode b_X_run 47 = .ok (.iload 4, 2) := by decide +kernel
theorem d_X_run_49 : decode b_X_run 49 = .ok (.ifCond .le 39, 3) := by decide +kernel
theorem d_X_run_52 : decode b_X_run 52 = .ok (.aload_n 0, 1) := by decide +kernel
theorem d_X_run_53 : decode b_X_run 53 = .ok (.getfield 26, 3) := by decide +kernel
theorem d_X_run_56 : decode b_X_run 56 = .ok (.aload_n 0, 1) := by decide +kernel
theorem d_X_run_57 : decode b_X_run 57 = .ok (.getfield 49, 3) := by decide +kernel
theorem d_X_run_60 : decode b_X_run 60 = .ok (.getfield 100, 3) := by decide +kernel
theorem d_X_run_63 : decode b_X_run 63 = .ok (.invokevirtual 135, 3) := by decide +kernel
theorem d_X_run_66 : decode b_X_run 66 = .ok (.ifCond .eq 22, 3) := by decide +kernel
theorem d_X_run_69 : decode b_X_run 69 = .ok (.aload_n 0, 1) := by decide +kernel
theorem d_X_run_70 : decode b_X_run 70 = .ok (.getfield 49, 3) := by decide +kernel
theorem d_X_run_73 : decode b_X_run 73 = .ok (.bipush 9, 2) := by decide +kernel
theorem d_X_run_75 : decode b_X_run 75 = .ok (.aload_n 0, 1) := by decide +kernel
theorem d_X_run_76 : decode b_X_run 76 = .ok (.getfield 49, 3) := by decide +kernel
theorem d_X_run_79 : decode b_X_run 79 = .ok (.getfield 100, 3) := by decide +kernel
theorem d_X_run_82 : decode b_X_run 82 = .ok (.invokevirtual 89, 3) := by decide +kernel
theorem d_X_run_85 : decode b_X_run 85 = .ok (.goto 42, 3) := by decide +kernel
theorem d_X_run_88 : decode b_X_run 88 = .ok (.aload_n 0, 1) := by decide +kernel
theorem d_X_run_89 : decode b_X_run 89 = .ok (.getfield 49, 3) := by decide +kernel
theorem d_X_run_92 : decode b_X_run 92 = .ok (.getfield 131, 3) := by decide +kernel
theorem d_X_run_95 : decode b_X_run 95 = .ok (.iload_n 2, 1) := by decide +kernel
theorem d_X_run_96 : decode b_X_run 96 = .ok (.isub, 1) := by decide +kernel
theorem d_X_run_97 : decode b_X_run 97 = .ok (.iload_n 1, 1) := by decide +kernel
theorem d_X_run_98 : decode b_X_run 98 = .ok (.if_icmp .lt 16, 3) := by decide +kernel
theorem d_X_run_101 : decode b_X_run 101 = .ok (.aload_n 0, 1) := by decide +kernel
theorem d_X_run_102 : decode b_X_run 102 = .ok (.getfield 49, 3) := by decide +kernel
theorem d_X_run_105 : decode b_X_run 105 = .ok (.invokevirtual 136, 3) := by decide +kernel
theorem d_X_run_108 : decode b_X_run 108 = .ok (.ifCond .eq 6, 3) := by decide +kernel
theorem d_X_run_111 : decode b_X_run 111 = .ok (.goto 16, 3) := by decide +kernel
theorem d_X_run_114 : decode b_X_run 114 = .ok (.aload_n 0, 1) := by decide +kernel
theorem d_X_run_115 : decode b_X_run 115 = .ok (.getfield 49, 3) := by decide +kernel
theorem d_X_run_118 : decode b_X_run 118 = .ok (.invokevirtual 125, 3) := by decide +kernel
theorem d_X_run_121 : decode b_X_run 121 = .ok (.iinc 4 1, 3) := by decide +kernel
theorem d_X_run_124 : decode b_X_run 124 = .ok (.goto (-93), 3) := by decide +kernel
theorem d_X_run_127 : decode b_X_run 127 = .ok (.aload_n 0, 1) := by decide +kernel
theorem d_X_run_128 : decode b_X_run 128 = .ok (.getfield 49, 3) := by decide +kernel
theorem d_X_run_131 : decode b_X_run 131 = .ok (.getfield 131, 3) := by decide +kernel
theorem d_X_run_134 : decode b_X_run 134 = .ok (.iload_n 2, 1) := by decide +kernel
theorem d_X_run_135 : decode b_X_run 135 = .ok (.isub, 1) := by decide +kernel
theorem d_X_run_136 : decode b_X_run 136 = .ok (.ireturn, 1) := by decide +kernel
theorem d_X_back_0 : decode b_X_back 0 = .ok (.iconst 0, 1) := by decide +kernel
theorem d_X_back_1 : decode b_X_back 1 = .ok (.istore_n 2, 1) := by decide +kernel
theorem d_X_back_2 : decode b_X_back 2 = .ok (.iload_n 2, 1) := by decide +kernel
theorem d_X_back_3 : decode b_X_back 3 = .ok (.iload_n 1, 1) := by decide +kernel
theorem d_X_back_4 : decode b_X_back 4 = .ok (.if_icmp .ge 38, 3) := by decide +kernel
theorem d_X_back_7 : decode b_X_back 7 = .ok (.iload_n 2, 1) := by decide +kernel
theorem d_X_back_8 : decode b_X_back 8 = .ok (.bipush 100, 2) := by decide +kernel
theorem d_X_back_10 : decode b_X_back 10 = .ok (.if_icmp .ge 32, 3) := by decide +kernel
theorem d_X_back_13 : decode b_X_back 13 = .ok (.aload_n 0, 1) := by decide +kernel
theorem d_X_back_14 : decode b_X_back 14 = .ok (.getfield 40, 3) := by decide +kernel
theorem d_X_back_17 : decode b_X_back 17 = .ok (.invokevirtual 139, 3) := by decide +kernel
theorem d_X_back_20 : decode b_X_back 20 = .ok (.astore_n 3, 1) := by decide +kernel
theorem d_X_back_21 : decode b_X_back 21 = .ok (.aload_n 3, 1) := by decide +kernel
theorem d_X_back_22 : decode b_X_back 22 = .ok (.ifnonnull 6, 3) := by decide +kernel
theorem d_X_back_25 : decode b_X_back 25 = .ok (.goto 17, 3) := by decide +kernel
theorem d_X_back_28 : decode b_X_back 28 = .ok (.aload_n 0, 1) := by decide +kernel
theorem d_X_back_29 : decode b_X_back 29 = .ok (.getfield 49, 3) := by decide +kernel
theorem d_X_back_32 : decode b_X_back 32 = .ok (.aload_n 3, 1) := by decide +kernel
theorem d_X_back_33 : decode b_X_back 33 = .ok (.invokevirtual 143, 3) := by decide +kernel
theorem d_X_back_36 : decode b_X_back 36 = .ok (.iinc 2 1, 3) := by decide +kernel
theorem d_X_back_39 : decode b_X_back 39 = .ok (.goto (-37), 3) := by decide +kernel
theorem d_X_back_42 : decode b_X_back 42 = .ok (.iload_n 2, 1) := by decide +kernel
theorem d_X_back_43 : decode b_X_back 43 = .ok (.ireturn, 1) := by decide +kernel
theorem d_X_state_0 : decode b_X_state 0 = .ok (.iload_n 1, 1) := by decide +kernel
theorem d_X_state_1 : decode b_X_state 1 = .ok (.tableswitch 131 0 8 #[51, 59, 67, 75, 83, 91, 99, 115, 123], 51) := by decide +kernel
theorem d_X_state_52 : decode b_X_state 52 = .ok (.aload_n 0, 1) := by decide +kernel
theorem d_X_state_53 : decode b_X_state 53 = .ok (.getfield 49, 3) := by decide +kernel
theorem d_X_state_56 : decode b_X_state 56 = .ok (.getfield 128, 3) := by decide +kernel
theorem d_X_state_59 : decode b_X_state 59 = .ok (.ireturn, 1) := by decide +kernel
theorem d_X_state_60 : decode b_X_state 60 = .ok (.aload_n 0, 1) := by decide +kernel
theorem d_X_state_61 : decode b_X_state 61 = .ok (.getfield 49, 3) := by decide +kernel
theorem d_X_state_64 : decode b_X_state 64 = .ok (.getfield 147, 3) := by decide +kernel
theorem d_X_state_67 : decode b_X_state 67 = .ok (.ireturn, 1) := by decide +kernel
theorem d_X_state_68 : decode b_X_state 68 = .ok (.aload_n 0, 1) := by decide +kernel
theorem d_X_state_69 : decode b_X_state 69 = .ok (.getfield 49, 3) := by decide +kernel
theorem d_X_state_72 : decode b_X_state 72 = .ok (.getfield 150, 3) := by decide +kernel
theorem d_X_state_75 : decode b_X_state 75 = .ok (.ireturn, 1) := by decide +kernel
theorem d_X_state_76 : decode b_X_state 76 = .ok (.aload_n 0, 1) := by decide +kernel
theorem d_X_state_77 : decode b_X_state 77 = .ok (.getfield 49, 3) := by decide +kernel
theorem d_X_state_80 : decode b_X_state 80 = .ok (.getfield 153, 3) := by decide +kernel
theorem d_X_state_83 : decode b_X_state 83 = .ok (.ireturn, 1) := by decide +kernel
