theorem d_M_isMarked_19 : decode b_M_isMarked 19 = .ok (.lconst 0, 1) := by decide +kernel
theorem d_M_isMarked_20 : decode b_M_isMarked 20 = .ok (.lcmp, 1) := by decide +kernel
theorem d_M_isMarked_21 : decode b_M_isMarked 21 = .ok (.ifCond .ne 19, 3) := by decide +kernel
theorem d_M_isMarked_24 : decode b_M_isMarked 24 = .ok (.aload_n 0, 1) := by decide +kernel
theorem d_M_isMarked_25 : decode b_M_isMarked 25 = .ok (.getfield 21, 3) := by decide +kernel
theorem d_M_isMarked_28 : decode b_M_isMarked 28 = .ok (.lload_n 1, 1) := by decide +kernel
theorem d_M_isMarked_29 : decode b_M_isMarked 29 = .ok (.l2i, 1) := by decide +kernel
theorem d_M_isMarked_30 : decode b_M_isMarked 30 = .ok (.iconst 2, 1) := by decide +kernel
theorem d_M_isMarked_31 : decode b_M_isMarked 31 = .ok (.idiv, 1) := by decide +kernel
theorem d_M_isMarked_32 : decode b_M_isMarked 32 = .ok (.baload, 1) := by decide +kernel
theorem d_M_isMarked_33 : decode b_M_isMarked 33 = .ok (.ifCond .eq 7, 3) := by decide +kernel
theorem d_M_isMarked_36 : decode b_M_isMarked 36 = .ok (.iconst 1, 1) := by decide +kernel
theorem d_M_isMarked_37 : decode b_M_isMarked 37 = .ok (.goto 4, 3) := by decide +kernel
theorem d_M_isMarked_40 : decode b_M_isMarked 40 = .ok (.iconst 0, 1) := by decide +kernel
theorem d_M_isMarked_41 : decode b_M_isMarked 41 = .ok (.ireturn, 1) := by decide +kernel
theorem d_M_bare_0 : decode b_M_bare 0 = .ok (.iload_n 0, 1) := by decide +kernel
theorem d_M_bare_1 : decode b_M_bare 1 = .ok (.i2l, 1) := by decide +kernel
theorem d_M_bare_2 : decode b_M_bare 2 = .ok (.ldc2_w 213, 3) := by decide +kernel
theorem d_M_bare_5 : decode b_M_bare 5 = .ok (.land, 1) := by decide +kernel
theorem d_M_bare_6 : decode b_M_bare 6 = .ok (.lreturn, 1) := by decide +kernel
theorem d_M_fail_0 : decode b_M_fail 0 = .ok (.aload_n 0, 1) := by decide +kernel
theorem d_M_fail_1 : decode b_M_fail 1 = .ok (.iload_n 1, 1) := by decide +kernel
theorem d_M_fail_2 : decode b_M_fail 2 = .ok (.putfield 198, 3) := by decide +kernel
theorem d_M_fail_5 : decode b_M_fail 5 = .ok (.aload_n 0, 1) := by decide +kernel
theorem d_M_fail_6 : decode b_M_fail 6 = .ok (.iload_n 2, 1) := by decide +kernel
theorem d_M_fail_7 : decode b_M_fail 7 = .ok (.putfield 201, 3) := by decide +kernel
theorem d_M_fail_10 : decode b_M_fail 10 = .ok (.iload_n 1, 1) := by decide +kernel
theorem d_M_fail_11 : decode b_M_fail 11 = .ok (.ireturn, 1) := by decide +kernel
theorem d_M_without_0 : decode b_M_without 0 = .ok (.iconst 0, 1) := by decide +kernel
theorem d_M_without_1 : decode b_M_without 1 = .ok (.istore 5, 2) := by decide +kernel
theorem d_M_without_3 : decode b_M_without 3 = .ok (.iload 5, 2) := by decide +kernel
theorem d_M_without_5 : decode b_M_without 5 = .ok (.iload_n 3, 1) := by decide +kernel
theorem d_M_without_6 : decode b_M_without 6 = .ok (.if_icmp .ge 30, 3) := by decide +kernel
theorem d_M_without_9 : decode b_M_without 9 = .ok (.aload_n 0, 1) := by decide +kernel
theorem d_M_without_10 : decode b_M_without 10 = .ok (.lload_n 1, 1) := by decide +kernel
theorem d_M_without_11 : decode b_M_without 11 = .ok (.iload 5, 2) := by decide +kernel
theorem d_M_without_13 : decode b_M_without 13 = .ok (.i2l, 1) := by decide +kernel
theorem d_M_without_14 : decode b_M_without 14 = .ok (.ladd, 1) := by decide +kernel
theorem d_M_without_15 : decode b_M_without 15 = .ok (.invokevirtual 215, 3) := by decide +kernel
theorem d_M_without_18 : decode b_M_without 18 = .ok (.iload 4, 2) := by decide +kernel
theorem d_M_without_20 : decode b_M_without 20 = .ok (.iand, 1) := by decide +kernel
theorem d_M_without_21 : decode b_M_without 21 = .ok (.ifCond .ne 9, 3) := by decide +kernel
theorem d_M_without_24 : decode b_M_without 24 = .ok (.lload_n 1, 1) := by decide +kernel
theorem d_M_without_25 : decode b_M_without 25 = .ok (.iload 5, 2) := by decide +kernel
theorem d_M_without_27 : decode b_M_without 27 = .ok (.i2l, 1) := by decide +kernel
theorem d_M_without_28 : decode b_M_without 28 = .ok (.ladd, 1) := by decide +kernel
theorem d_M_without_29 : decode b_M_without 29 = .ok (.lreturn, 1) := by decide +kernel
theorem d_M_without_30 : decode b_M_without 30 = .ok (.iinc 5 1, 3) := by decide +kernel
theorem d_M_without_33 : decode b_M_without 33 = .ok (.goto (-30), 3) := by decide +kernel
theorem d_M_without_36 : decode b_M_without 36 = .ok (.ldc2_w 219, 3) := by decide +kernel
theorem d_M_without_39 : decode b_M_without 39 = .ok (.lreturn, 1) := by decide +kernel
theorem d_M_fetched_0 : decode b_M_fetched 0 = .ok (.iconst 0, 1) := by decide +kernel
theorem d_M_fetched_1 : decode b_M_fetched 1 = .ok (.istore_n 3, 1) := by decide +kernel
theorem d_M_fetched_2 : decode b_M_fetched 2 = .ok (.iconst 0, 1) := by decide +kernel
theorem d_M_fetched_3 : decode b_M_fetched 3 = .ok (.istore 4, 2) := by decide +kernel
theorem d_M_fetched_5 : decode b_M_fetched 5 = .ok (.iload 4, 2) := by decide +kernel
theorem d_M_fetched_7 : decode b_M_fetched 7 = .ok (.iload_n 2, 1) := by decide +kernel
theorem d_M_fetched_8 : decode b_M_fetched 8 = .ok (.if_icmp .ge 27, 3) := by decide +kernel
theorem d_M_fetched_11 : decode b_M_fetched 11 = .ok (.iload_n 3, 1) := by decide +kernel
theorem d_M_fetched_12 : decode b_M_fetched 12 = .ok (.aload_n 0, 1) := by decide +kernel
theorem d_M_fetched_13 : decode b_M_fetched 13 = .ok (.getfield 17, 3) := by decide +kernel
theorem d_M_fetched_16 : decode b_M_fetched 16 = .ok (.iload_n 1, 1) := by decide +kernel
theorem d_M_fetched_17 : decode b_M_fetched 17 = .ok (.iload 4, 2) := by decide +kernel
theorem d_M_fetched_19 : decode b_M_fetched 19 = .ok (.iadd, 1) := by decide +kernel
theorem d_M_fetched_20 : decode b_M_fetched 20 = .ok (.iaload, 1) := by decide +kernel
theorem d_M_fetched_21 : decode b_M_fetched 21 = .ok (.bipush 8, 2) := by decide +kernel
theorem d_M_fetched_23 : decode b_M_fetched 23 = .ok (.iload 4, 2) := by decide +kernel
theorem d_M_fetched_25 : decode b_M_fetched 25 = .ok (.imul, 1) := by decide +kernel
theorem d_M_fetched_26 : decode b_M_fetched 26 = .ok (.ishl, 1) := by decide +kernel
theorem d_M_fetched_27 : decode b_M_fetched 27 = .ok (.ior, 1) := by decide +kernel
theorem d_M_fetched_28 : decode b_M_fetched 28 = .ok (.istore_n 3, 1) := by decide +kernel
theorem d_M_fetched_29 : decode b_M_fetched 29 = .ok (.iinc 4 1, 3) := by decide +kernel
theorem d_M_fetched_32 : decode b_M_fetched 32 = .ok (.goto (-27), 3) := by decide +kernel
theorem d_M_fetched_35 : decode b_M_fetched 35 = .ok (.iload_n 3, 1) := by decide +kernel
theorem d_M_fetched_36 : decode b_M_fetched 36 = .ok (.ireturn, 1) := by decide +kernel
theorem d_M_isFetched_0 : decode b_M_isFetched 0 = .ok (.aload_n 0, 1) := by decide +kernel
theorem d_M_isFetched_1 : decode b_M_isFetched 1 = .ok (.getfield 195, 3) := by decide +kernel
theorem d_M_isFetched_4 : decode b_M_isFetched 4 = .ok (.invokestatic 221, 3) := by decide +kernel
theorem d_M_isFetched_7 : decode b_M_isFetched 7 = .ok (.lstore_n 1, 1) := by decide +kernel
theorem d_M_isFetched_8 : decode b_M_isFetched 8 = .ok (.aload_n 0, 1) := by decide +kernel
theorem d_M_isFetched_9 : decode b_M_isFetched 9 = .ok (.lload_n 1, 1) := by decide +kernel
theorem d_M_isFetched_10 : decode b_M_isFetched 10 = .ok (.iconst 2, 1) := by decide +kernel
theorem d_M_isFetched_11 : decode b_M_isFetched 11 = .ok (.iconst 4, 1) := by decide +kernel
theorem d_M_isFetched_12 : decode b_M_isFetched 12 = .ok (.invokevirtual 225, 3) := by decide +kernel
theorem d_M_isFetched_15 : decode b_M_isFetched 15 = .ok (.lstore_n 3, 1) := by decide +kernel
theorem d_M_isFetched_16 : decode b_M_isFetched 16 = .ok (.lload_n 3, 1) := by decide +kernel
theorem d_M_isFetched_17 : decode b_M_isFetched 17 = .ok (.lconst 0, 1) := by decide +kernel
theorem d_M_isFetched_18 : decode b_M_isFetched 18 = .ok (.lcmp, 1) := by decide +kernel
theorem d_M_isFetched_19 : decode b_M_isFetched 19 = .ok (.ifCond .lt 13, 3) := by decide +kernel
theorem d_M_isFetched_22 : decode b_M_isFetched 22 = .ok (.aload_n 0, 1) := by decide +kernel
theorem d_M_isFetched_23 : decode b_M_isFetched 23 = .ok (.iconst 1, 1) := by decide +kernel
theorem d_M_isFetched_24 : decode b_M_isFetched 24 = .ok (.lload_n 3, 1) := by decide +kernel
theorem d_M_isFetched_25 : decode b_M_isFetched 25 = .ok (.l2i, 1) := by decide +kernel
theorem d_M_isFetched_26 : decode b_M_isFetched 26 = .ok (.invokevirtual 229, 3) := by decide +kernel
theorem d_M_isFetched_29 : decode b_M_isFetched 29 = .ok (.pop, 1) := by decide +kernel
theorem d_M_isFetched_30 : decode b_M_isFetched 30 = .ok (.iconst 0, 1) := by decide +kernel
theorem d_M_isFetched_31 : decode b_M_isFetched 31 = .ok (.ireturn, 1) := by decide +kernel
theorem d_M_isFetched_32 : decode b_M_isFetched 32 = .ok (.aload_n 0, 1) := by decide +kernel
theorem d_M_isFetched_33 : decode b_M_isFetched 33 = .ok (.aload_n 0, 1) := by decide +kernel
theorem d_M_isFetched_34 : decode b_M_isFetched 34 = .ok (.getfield 195, 3) := by decide +kernel
theorem d_M_isFetched_37 : decode b_M_isFetched 37 = .ok (.iconst 2, 1) := by decide +kernel
theorem d_M_isFetched_38 : decode b_M_isFetched 38 = .ok (.invokevirtual 233, 3) := by decide +kernel
theorem d_M_isFetched_41 : decode b_M_isFetched 41 = .ok (.istore 5, 2) := by decide +kernel
theorem d_M_isFetched_43 : decode b_M_isFetched 43 = .ok (.aload_n 0, 1) := by decide +kernel
theorem d_M_isFetched_44 : decode b_M_isFetched 44 = .ok (.iload 5, 2) := by decide +kernel
theorem d_M_isFetched_46 : decode b_M_isFetched 46 = .ok (.invokestatic 168, 3) := by decide +kernel
theorem d_M_isFetched_49 : decode b_M_isFetched 49 = .ok (.ifCond .eq 7, 3) := by decide +kernel
theorem d_M_isFetched_52 : decode b_M_isFetched 52 = .ok (.iconst 4, 1) := by decide +kernel
theorem d_M_isFetched_53 : decode b_M_isFetched 53 = .ok (.goto 4, 3) := by decide +kernel
theorem d_M_isFetched_56 : decode b_M_isFetched 56 = .ok (.iconst 2, 1) := by decide +kernel
theorem d_M_isFetched_57 : decode b_M_isFetched 57 = .ok (.putfield 236, 3) := by decide +kernel
theorem d_M_isFetched_60 : decode b_M_isFetched 60 = .ok (.aload_n 0, 1) := by decide +kernel
theorem d_M_isFetched_61 : decode b_M_isFetched 61 = .ok (.getfield 236, 3) := by decide +kernel
theorem d_M_isFetched_64 : decode b_M_isFetched 64 = .ok (.iconst 4, 1) := by decide +kernel
theorem d_M_isFetched_65 : decode b_M_isFetched 65 = .ok (.if_icmp .ne 42, 3) := by decide +kernel
theorem d_M_isFetched_68 : decode b_M_isFetched 68 = .ok (.aload_n 0, 1) := by decide +kernel
theorem d_M_isFetched_69 : decode b_M_isFetched 69 = .ok (.lload_n 1, 1) := by decide +kernel
theorem d_M_isFetched_70 : decode b_M_isFetched 70 = .ok (.ldc2_w 114, 3) := by decide +kernel
theorem d_M_isFetched_73 : decode b_M_isFetched 73 = .ok (.ladd, 1) := by decide +kernel
theorem d_M_isFetched_74 : decode b_M_isFetched 74 = .ok (.iconst 2, 1) := by decide +kernel
theorem d_M_isFetched_75 : decode b_M_isFetched 75 = .ok (.iconst 4, 1) := by decide +kernel
theorem d_M_isFetched_76 : decode b_M_isFetched 76 = .ok (.invokevirtual 225, 3) := by decide +kernel
theorem d_M_isFetched_79 : decode b_M_isFetched 79 = .ok (.lstore_n 3, 1) := by decide +kernel
theorem d_M_isFetched_80 : decode b_M_isFetched 80 = .ok (.lload_n 3, 1) := by decide +kernel
theorem d_M_isFetched_81 : decode b_M_isFetched 81 = .ok (.lconst 0, 1) := by decide +kernel
theorem d_M_isFetched_82 : decode b_M_isFetched 82 = .ok (.lcmp, 1) := by decide +kernel
theorem d_M_isFetched_83 : decode b_M_isFetched 83 = .ok (.ifCond .lt 13, 3) := by decide +kernel
theorem d_M_isFetched_86 : decode b_M_isFetched 86 = .ok (.aload_n 0, 1) := by decide +kernel
theorem d_M_isFetched_87 : decode b_M_isFetched 87 = .ok (.iconst 1, 1) := by decide +kernel
theorem d_M_isFetched_88 : decode b_M_isFetched 88 = .ok (.lload_n 3, 1) := by decide +kernel
theorem d_M_isFetched_89 : decode b_M_isFetched 89 = .ok (.l2i, 1) := by decide +kernel
theorem d_M_isFetched_90 : decode b_M_isFetched 90 = .ok (.invokevirtual 229, 3) := by decide +kernel
theorem d_M_isFetched_93 : decode b_M_isFetched 93 = .ok (.pop, 1) := by decide +kernel
theorem d_M_isFetched_94 : decode b_M_isFetched 94 = .ok (.iconst 0, 1) := by decide +kernel
theorem d_M_isFetched_95 : decode b_M_isFetched 95 = .ok (.ireturn, 1) := by decide +kernel
theorem d_M_isFetched_96 : decode b_M_isFetched 96 = .ok (.aload_n 0, 1) := by decide +kernel
theorem d_M_isFetched_97 : decode b_M_isFetched 97 = .ok (.aload_n 0, 1) := by decide +kernel
theorem d_M_isFetched_98 : decode b_M_isFetched 98 = .ok (.getfield 195, 3) := by decide +kernel
theorem d_M_isFetched_101 : decode b_M_isFetched 101 = .ok (.iconst 4, 1) := by decide +kernel
theorem d_M_isFetched_102 : decode b_M_isFetched 102 = .ok (.invokevirtual 233, 3) := by decide +kernel
theorem d_M_isFetched_105 : decode b_M_isFetched 105 = .ok (.istore 5, 2) := by decide +kernel
theorem d_M_isFetched_107 : decode b_M_isFetched 107 = .ok (.aload_n 0, 1) := by decide +kernel
theorem d_M_isFetched_108 : decode b_M_isFetched 108 = .ok (.aload_n 0, 1) := by decide +kernel
theorem d_M_isFetched_109 : decode b_M_isFetched 109 = .ok (.iload 5, 2) := by decide +kernel
theorem d_M_isFetched_111 : decode b_M_isFetched 111 = .ok (.invokevirtual 239, 3) := by decide +kernel
theorem d_M_isFetched_114 : decode b_M_isFetched 114 = .ok (.putfield 242, 3) := by decide +kernel
theorem d_M_isFetched_117 : decode b_M_isFetched 117 = .ok (.aload_n 0, 1) := by decide +kernel
theorem d_M_isFetched_118 : decode b_M_isFetched 118 = .ok (.getfield 242, 3) := by decide +kernel
theorem d_M_isFetched_121 : decode b_M_isFetched 121 = .ok (.iconst (-1), 1) := by decide +kernel
theorem d_M_isFetched_122 : decode b_M_isFetched 122 = .ok (.if_icmp .ne 15, 3) := by decide +kernel
theorem d_M_isFetched_125 : decode b_M_isFetched 125 = .ok (.aload_n 0, 1) := by decide +kernel
theorem d_M_isFetched_126 : decode b_M_isFetched 126 = .ok (.iconst 2, 1) := by decide +kernel
theorem d_M_isFetched_127 : decode b_M_isFetched 127 = .ok (.aload_n 0, 1) := by decide +kernel
theorem d_M_isFetched_128 : decode b_M_isFetched 128 = .ok (.getfield 195, 3) := by decide +kernel
theorem d_M_isFetched_131 : decode b_M_isFetched 131 = .ok (.invokevirtual 229, 3) := by decide +kernel
theorem d_M_isFetched_134 : decode b_M_isFetched 134 = .ok (.pop, 1) := by decide +kernel
theorem d_M_isFetched_135 : decode b_M_isFetched 135 = .ok (.iconst 0, 1) := by decide +kernel
theorem d_M_isFetched_136 : decode b_M_isFetched 136 = .ok (.ireturn, 1) := by decide +kernel
theorem d_M_isFetched_137 : decode b_M_isFetched 137 = .ok (.aload_n 0, 1) := by decide +kernel
theorem d_M_isFetched_138 : decode b_M_isFetched 138 = .ok (.getfield 242, 3) := by decide +kernel
theorem d_M_isFetched_141 : decode b_M_isFetched 141 = .ok (.bipush 48, 2) := by decide +kernel
theorem d_M_isFetched_143 : decode b_M_isFetched 143 = .ok (.if_icmp .lt 23, 3) := by decide +kernel
theorem d_M_isFetched_146 : decode b_M_isFetched 146 = .ok (.aload_n 0, 1) := by decide +kernel
theorem d_M_isFetched_147 : decode b_M_isFetched 147 = .ok (.aload_n 0, 1) := by decide +kernel
theorem d_M_isFetched_148 : decode b_M_isFetched 148 = .ok (.getfield 242, 3) := by decide +kernel
theorem d_M_isFetched_151 : decode b_M_isFetched 151 = .ok (.invokevirtual 245, 3) := by decide +kernel
theorem d_M_isFetched_154 : decode b_M_isFetched 154 = .ok (.istore 6, 2) := by decide +kernel
theorem d_M_isFetched_156 : decode b_M_isFetched 156 = .ok (.aload_n 0, 1) := by decide +kernel
theorem d_M_isFetched_157 : decode b_M_isFetched 157 = .ok (.aload_n 0, 1) := by decide +kernel
theorem d_M_isFetched_158 : decode b_M_isFetched 158 = .ok (.iload 6, 2) := by decide +kernel
theorem d_M_isFetched_160 : decode b_M_isFetched 160 = .ok (.invokevirtual 239, 3) := by decide +kernel
theorem d_M_isFetched_163 : decode b_M_isFetched 163 = .ok (.putfield 242, 3) := by decide +kernel
theorem d_M_isFetched_166 : decode b_M_isFetched 166 = .ok (.iconst 1, 1) := by decide +kernel
theorem d_M_isFetched_167 : decode b_M_isFetched 167 = .ok (.ireturn, 1) := by decide +kernel
theorem d_M_widthOf_0 : decode b_M_widthOf 0 = .ok (.iload_n 1, 1) := by decide +kernel
theorem d_M_widthOf_1 : decode b_M_widthOf 1 = .ok (.bipush 10, 2) := by decide +kernel
theorem d_M_widthOf_3 : decode b_M_widthOf 3 = .ok (.if_icmp .eq 15, 3) := by decide +kernel
theorem d_M_widthOf_6 : decode b_M_widthOf 6 = .ok (.iload_n 1, 1) := by decide +kernel
theorem d_M_widthOf_7 : decode b_M_widthOf 7 = .ok (.bipush 13, 2) := by decide +kernel
theorem d_M_widthOf_9 : decode b_M_widthOf 9 = .ok (.if_icmp .eq 9, 3) := by decide +kernel
theorem d_M_widthOf_12 : decode b_M_widthOf 12 = .ok (.iload_n 1, 1) := by decide +kernel
theorem d_M_widthOf_13 : decode b_M_widthOf 13 = .ok (.bipush 15, 2) := by decide +kernel
theorem d_M_widthOf_15 : decode b_M_widthOf 15 = .ok (.if_icmp .ne 7, 3) := by decide +kernel
theorem d_M_widthOf_18 : decode b_M_widthOf 18 = .ok (.iconst 1, 1) := by decide +kernel
theorem d_M_widthOf_19 : decode b_M_widthOf 19 = .ok (.goto 26, 3) := by decide +kernel
theorem d_M_widthOf_22 : decode b_M_widthOf 22 = .ok (.iload_n 1, 1) := by decide +kernel
theorem d_M_widthOf_23 : decode b_M_widthOf 23 = .ok (.bipush 11, 2) := by decide +kernel
theorem d_M_widthOf_25 : decode b_M_widthOf 25 = .ok (.if_icmp .eq 15, 3) := by decide +kernel
theorem d_M_widthOf_28 : decode b_M_widthOf 28 = .ok (.iload_n 1, 1) := by decide +kernel
theorem d_M_widthOf_29 : decode b_M_widthOf 29 = .ok (.bipush 14, 2) := by decide +kernel
theorem d_M_widthOf_31 : decode b_M_widthOf 31 = .ok (.if_icmp .eq 9, 3) := by decide +kernel
theorem d_M_widthOf_34 : decode b_M_widthOf 34 = .ok (.iload_n 1, 1) := by decide +kernel
theorem d_M_widthOf_35 : decode b_M_widthOf 35 = .ok (.bipush 16, 2) := by decide +kernel
theorem d_M_widthOf_37 : decode b_M_widthOf 37 = .ok (.if_icmp .ne 7, 3) := by decide +kernel
theorem d_M_widthOf_40 : decode b_M_widthOf 40 = .ok (.iconst 2, 1) := by decide +kernel
theorem d_M_widthOf_41 : decode b_M_widthOf 41 = .ok (.goto 4, 3) := by decide +kernel
theorem d_M_widthOf_44 : decode b_M_widthOf 44 = .ok (.iconst 4, 1) := by decide +kernel
theorem d_M_widthOf_45 : decode b_M_widthOf 45 = .ok (.ireturn, 1) := by decide +kernel
theorem d_M_canReach_0 : decode b_M_canReach 0 = .ok (.aload_n 0, 1) := by decide +kernel
theorem d_M_canReach_1 : decode b_M_canReach 1 = .ok (.getfield 242, 3) := by decide +kernel
theorem d_M_canReach_4 : decode b_M_canReach 4 = .ok (.bipush 9, 2) := by decide +kernel
theorem d_M_canReach_6 : decode b_M_canReach 6 = .ok (.if_icmp .le 16, 3) := by decide +kernel
theorem d_M_canReach_9 : decode b_M_canReach 9 = .ok (.aload_n 0, 1) := by decide +kernel
theorem d_M_canReach_10 : decode b_M_canReach 10 = .ok (.getfield 242, 3) := by decide +kernel
theorem d_M_canReach_13 : decode b_M_canReach 13 = .ok (.bipush 15, 2) := by decide +kernel
theorem d_M_canReach_15 : decode b_M_canReach 15 = .ok (.if_icmp .ge 7, 3) := by decide +kernel
theorem d_M_canReach_18 : decode b_M_canReach 18 = .ok (.iconst 1, 1) := by decide +kernel
theorem d_M_canReach_19 : decode b_M_canReach 19 = .ok (.goto 4, 3) := by decide +kernel
theorem d_M_canReach_22 : decode b_M_canReach 22 = .ok (.iconst 0, 1) := by decide +kernel
theorem d_M_canReach_23 : decode b_M_canReach 23 = .ok (.istore_n 1, 1) := by decide +kernel
theorem d_M_canReach_24 : decode b_M_canReach 24 = .ok (.iload_n 1, 1) := by decide +kernel
theorem d_M_canReach_25 : decode b_M_canReach 25 = .ok (.ifCond .ne 15, 3) := by decide +kernel
theorem d_M_canReach_28 : decode b_M_canReach 28 = .ok (.aload_n 0, 1) := by decide +kernel
theorem d_M_canReach_29 : decode b_M_canReach 29 = .ok (.getfield 242, 3) := by decide +kernel
theorem d_M_canReach_32 : decode b_M_canReach 32 = .ok (.invokestatic 77, 3) := by decide +kernel
theorem d_M_canReach_35 : decode b_M_canReach 35 = .ok (.ifCond .ne 5, 3) := by decide +kernel
theorem d_M_canReach_38 : decode b_M_canReach 38 = .ok (.iconst 1, 1) := by decide +kernel
theorem d_M_canReach_39 : decode b_M_canReach 39 = .ok (.ireturn, 1) := by decide +kernel
theorem d_M_canReach_40 : decode b_M_canReach 40 = .ok (.aload_n 0, 1) := by decide +kernel
theorem d_M_canReach_41 : decode b_M_canReach 41 = .ok (.getfield 37, 3) := by decide +kernel
theorem d_M_canReach_44 : decode b_M_canReach 44 = .ok (.aload_n 0, 1) := by decide +kernel
theorem d_M_canReach_45 : decode b_M_canReach 45 = .ok (.getfield 13, 3) := by decide +kernel
theorem d_M_canReach_48 : decode b_M_canReach 48 = .ok (.iconst 1, 1) := by decide +kernel
theorem d_M_canReach_49 : decode b_M_canReach 49 = .ok (.iaload, 1) := by decide +kernel
theorem d_M_canReach_50 : decode b_M_canReach 50 = .ok (.iaload, 1) := by decide +kernel
theorem d_M_canReach_51 : decode b_M_canReach 51 = .ok (.aload_n 0, 1) := by decide +kernel
theorem d_M_canReach_52 : decode b_M_canReach 52 = .ok (.getfield 13, 3) := by decide +kernel
theorem d_M_canReach_55 : decode b_M_canReach 55 = .ok (.iconst 3, 1) := by decide +kernel
theorem d_M_canReach_56 : decode b_M_canReach 56 = .ok (.iaload, 1) := by decide +kernel
theorem d_M_canReach_57 : decode b_M_canReach 57 = .ok (.iadd, 1) := by decide +kernel
theorem d_M_canReach_58 : decode b_M_canReach 58 = .ok (.invokestatic 221, 3) := by decide +kernel
theorem d_M_canReach_61 : decode b_M_canReach 61 = .ok (.lstore_n 2, 1) := by decide +kernel
theorem d_M_canReach_62 : decode b_M_canReach 62 = .ok (.aload_n 0, 1) := by decide +kernel
theorem d_M_canReach_63 : decode b_M_canReach 63 = .ok (.aload_n 0, 1) := by decide +kernel
theorem d_M_canReach_64 : decode b_M_canReach 64 = .ok (.getfield 242, 3) := by decide +kernel
theorem d_M_canReach_67 : decode b_M_canReach 67 = .ok (.invokevirtual 248, 3) := by decide +kernel
theorem d_M_canReach_70 : decode b_M_canReach 70 = .ok (.istore 4, 2) := by decide +kernel
theorem d_M_canReach_72 : decode b_M_canReach 72 = .ok (.lload_n 2, 1) := by decide +kernel
theorem d_M_canReach_73 : decode b_M_canReach 73 = .ok (.iload 4, 2) := by decide +kernel
theorem d_M_canReach_75 : decode b_M_canReach 75 = .ok (.i2l, 1) := by decide +kernel
theorem d_M_canReach_76 : decode b_M_canReach 76 = .ok (.lrem, 1) := by decide +kernel
theorem d_M_canReach_77 : decode b_M_canReach 77 = .ok (.lconst 0, 1) := by decide +kernel
theorem d_M_canReach_78 : decode b_M_canReach 78 = .ok (.lcmp, 1) := by decide +kernel
theorem d_M_canReach_79 : decode b_M_canReach 79 = .ok (.ifCond .ne 26, 3) := by decide +kernel
theorem d_M_canReach_82 : decode b_M_canReach 82 = .ok (.aload_n 0, 1) := by decide +kernel
theorem d_M_canReach_83 : decode b_M_canReach 83 = .ok (.lload_n 2, 1) := by decide +kernel
theorem d_M_canReach_84 : decode b_M_canReach 84 = .ok (.iload 4, 2) := by decide +kernel
theorem d_M_canReach_86 : decode b_M_canReach 86 = .ok (.iload_n 1, 1) := by decide +kernel
theorem d_M_canReach_87 : decode b_M_canReach 87 = .ok (.ifCond .eq 7, 3) := by decide +kernel
theorem d_M_canReach_90 : decode b_M_canReach 90 = .ok (.iconst 1, 1) := by decide +kernel
theorem d_M_canReach_91 : decode b_M_canReach 91 = .ok (.goto 4, 3) := by decide +kernel
theorem d_M_canReach_94 : decode b_M_canReach 94 = .ok (.iconst 2, 1) := by decide +kernel
theorem d_M_canReach_95 : decode b_M_canReach 95 = .ok (.invokevirtual 225, 3) := by decide +kernel
theorem d_M_canReach_98 : decode b_M_canReach 98 = .ok (.lconst 0, 1) := by decide +kernel
theorem d_M_canReach_99 : decode b_M_canReach 99 = .ok (.lcmp, 1) := by decide +kernel
theorem d_M_canReach_100 : decode b_M_canReach 100 = .ok (.ifCond .ge 5, 3) := by decide +kernel
theorem d_M_canReach_103 : decode b_M_canReach 103 = .ok (.iconst 1, 1) := by decide +kernel
theorem d_M_canReach_104 : decode b_M_canReach 104 = .ok (.ireturn, 1) := by decide +kernel
theorem d_M_canReach_105 : decode b_M_canReach 105 = .ok (.aload_n 0, 1) := by decide +kernel
theorem d_M_canReach_106 : decode b_M_canReach 106 = .ok (.iload_n 1, 1) := by decide +kernel
theorem d_M_canReach_107 : decode b_M_canReach 107 = .ok (.ifCond .eq 7, 3) := by decide +kernel
theorem d_M_canReach_110 : decode b_M_canReach 110 = .ok (.iconst 3, 1) := by decide +kernel
theorem d_M_canReach_111 : decode b_M_canReach 111 = .ok (.goto 4, 3) := by decide +kernel
theorem d_M_canReach_114 : decode b_M_canReach 114 = .ok (.iconst 4, 1) := by decide +kernel
theorem d_M_canReach_115 : decode b_M_canReach 115 = .ok (.lload_n 2, 1) := by decide +kernel
theorem d_M_canReach_116 : decode b_M_canReach 116 = .ok (.l2i, 1) := by decide +kernel
theorem d_M_canReach_117 : decode b_M_canReach 117 = .ok (.invokevirtual 229, 3) := by decide +kernel
theorem d_M_canReach_120 : decode b_M_canReach 120 = .ok (.pop, 1) := by decide +kernel
theorem d_M_canReach_121 : decode b_M_canReach 121 = .ok (.iconst 0, 1) := by decide +kernel
theorem d_M_canReach_122 : decode b_M_canReach 122 = .ok (.ireturn, 1) := by decide +kernel
theorem d_M_keep_0 : decode b_M_keep 0 = .ok (.bipush 13, 2) := by decide +kernel
theorem d_M_keep_2 : decode b_M_keep 2 = .ok (.aload_n 0, 1) := by decide +kernel
theorem d_M_keep_3 : decode b_M_keep 3 = .ok (.getfield 251, 3) := by decide +kernel
theorem d_M_keep_6 : decode b_M_keep 6 = .ok (.imul, 1) := by decide +kernel
theorem d_M_keep_7 : decode b_M_keep 7 = .ok (.istore_n 1, 1) := by decide +kernel
theorem d_M_keep_8 : decode b_M_keep 8 = .ok (.aload_n 0, 1) := by decide +kernel
theorem d_M_keep_9 : decode b_M_keep 9 = .ok (.getfield 46, 3) := by decide +kernel
theorem d_M_keep_12 : decode b_M_keep 12 = .ok (.iload_n 1, 1) := by decide +kernel
theorem d_M_keep_13 : decode b_M_keep 13 = .ok (.aload_n 0, 1) := by decide +kernel
theorem d_M_keep_14 : decode b_M_keep 14 = .ok (.getfield 195, 3) := by decide +kernel
theorem d_M_keep_17 : decode b_M_keep 17 = .ok (.iastore, 1) := by decide +kernel
theorem d_M_keep_18 : decode b_M_keep 18 = .ok (.aload_n 0, 1) := by decide +kernel
theorem d_M_keep_19 : decode b_M_keep 19 = .ok (.getfield 46, 3) := by decide +kernel
theorem d_M_keep_22 : decode b_M_keep 22 = .ok (.iload_n 1, 1) := by decide +kernel
theorem d_M_keep_23 : decode b_M_keep 23 = .ok (.iconst 1, 1) := by decide +kernel
theorem d_M_keep_24 : decode b_M_keep 24 = .ok (.iadd, 1) := by decide +kernel
theorem d_M_keep_25 : decode b_M_keep 25 = .ok (.aload_n 0, 1) := by decide +kernel
theorem d_M_keep_26 : decode b_M_keep 26 = .ok (.getfield 198, 3) := by decide +kernel
theorem d_M_keep_29 : decode b_M_keep 29 = .ok (.iastore, 1) := by decide +kernel
theorem d_M_keep_30 : decode b_M_keep 30 = .ok (.aload_n 0, 1) := by decide +kernel
theorem d_M_keep_31 : decode b_M_keep 31 = .ok (.getfield 46, 3) := by decide +kernel
theorem d_M_keep_34 : decode b_M_keep 34 = .ok (.iload_n 1, 1) := by decide +kernel
theorem d_M_keep_35 : decode b_M_keep 35 = .ok (.iconst 2, 1) := by decide +kernel
theorem d_M_keep_36 : decode b_M_keep 36 = .ok (.iadd, 1) := by decide +kernel
theorem d_M_keep_37 : decode b_M_keep 37 = .ok (.aload_n 0, 1) := by decide +kernel
theorem d_M_keep_38 : decode b_M_keep 38 = .ok (.getfield 201, 3) := by decide +kernel
theorem d_M_keep_41 : decode b_M_keep 41 = .ok (.iastore, 1) := by decide +kernel
theorem d_M_keep_42 : decode b_M_keep 42 = .ok (.aload_n 0, 1) := by decide +kernel
theorem d_M_keep_43 : decode b_M_keep 43 = .ok (.getfield 46, 3) := by decide +kernel
theorem d_M_keep_46 : decode b_M_keep 46 = .ok (.iload_n 1, 1) := by decide +kernel
theorem d_M_keep_47 : decode b_M_keep 47 = .ok (.iconst 3, 1) := by decide +kernel
theorem d_M_keep_48 : decode b_M_keep 48 = .ok (.iadd, 1) := by decide +kernel
theorem d_M_keep_49 : decode b_M_keep 49 = .ok (.aload_n 0, 1) := by decide +kernel
theorem d_M_keep_50 : decode b_M_keep 50 = .ok (.getfield 254, 3) := by decide +kernel
theorem d_M_keep_53 : decode b_M_keep 53 = .ok (.iastore, 1) := by decide +kernel
theorem d_M_keep_54 : decode b_M_keep 54 = .ok (.aload_n 0, 1) := by decide +kernel
theorem d_M_keep_55 : decode b_M_keep 55 = .ok (.getfield 46, 3) := by decide +kernel
theorem d_M_keep_58 : decode b_M_keep 58 = .ok (.iload_n 1, 1) := by decide +kernel
theorem d_M_keep_59 : decode b_M_keep 59 = .ok (.iconst 4, 1) := by decide +kernel
theorem d_M_keep_60 : decode b_M_keep 60 = .ok (.iadd, 1) := by decide +kernel
theorem d_M_keep_61 : decode b_M_keep 61 = .ok (.aload_n 0, 1) := by decide +kernel
theorem d_M_keep_62 : decode b_M_keep 62 = .ok (.getfield 257, 3) := by decide +kernel
theorem d_M_keep_65 : decode b_M_keep 65 = .ok (.iastore, 1) := by decide +kernel
theorem d_M_keep_66 : decode b_M_keep 66 = .ok (.aload_n 0, 1) := by decide +kernel
theorem d_M_keep_67 : decode b_M_keep 67 = .ok (.getfield 46, 3) := by decide +kernel
theorem d_M_keep_70 : decode b_M_keep 70 = .ok (.iload_n 1, 1) := by decide +kernel
theorem d_M_keep_71 : decode b_M_keep 71 = .ok (.iconst 5, 1) := by decide +kernel
theorem d_M_keep_72 : decode b_M_keep 72 = .ok (.iadd, 1) := by decide +kernel
theorem d_M_keep_73 : decode b_M_keep 73 = .ok (.aload_n 0, 1) := by decide +kernel
theorem d_M_keep_74 : decode b_M_keep 74 = .ok (.getfield 260, 3) := by decide +kernel
theorem d_M_keep_77 : decode b_M_keep 77 = .ok (.iastore, 1) := by decide +kernel
theorem d_M_keep_78 : decode b_M_keep 78 = .ok (.aload_n 0, 1) := by decide +kernel
theorem d_M_keep_79 : decode b_M_keep 79 = .ok (.getfield 46, 3) := by decide +kernel
theorem d_M_keep_82 : decode b_M_keep 82 = .ok (.iload_n 1, 1) := by decide +kernel
theorem d_M_keep_83 : decode b_M_keep 83 = .ok (.bipush 6, 2) := by decide +kernel
theorem d_M_keep_85 : decode b_M_keep 85 = .ok (.iadd, 1) := by decide +kernel
theorem d_M_keep_86 : decode b_M_keep 86 = .ok (.aload_n 0, 1) := by decide +kernel
theorem d_M_keep_87 : decode b_M_keep 87 = .ok (.getfield 263, 3) := by decide +kernel
theorem d_M_keep_90 : decode b_M_keep 90 = .ok (.iastore, 1) := by decide +kernel
theorem d_M_keep_91 : decode b_M_keep 91 = .ok (.aload_n 0, 1) := by decide +kernel
theorem d_M_keep_92 : decode b_M_keep 92 = .ok (.getfield 46, 3) := by decide +kernel
theorem d_M_keep_95 : decode b_M_keep 95 = .ok (.iload_n 1, 1) := by decide +kernel
theorem d_M_keep_96 : decode b_M_keep 96 = .ok (.bipush 7, 2) := by decide +kernel
theorem d_M_keep_98 : decode b_M_keep 98 = .ok (.iadd, 1) := by decide +kernel
theorem d_M_keep_99 : decode b_M_keep 99 = .ok (.aload_n 0, 1) := by decide +kernel
theorem d_M_keep_100 : decode b_M_keep 100 = .ok (.getfield 266, 3) := by decide +kernel
theorem d_M_keep_103 : decode b_M_keep 103 = .ok (.iastore, 1) := by decide +kernel
theorem d_M_keep_104 : decode b_M_keep 104 = .ok (.aload_n 0, 1) := by decide +kernel
theorem d_M_keep_105 : decode b_M_keep 105 = .ok (.getfield 46, 3) := by decide +kernel
theorem d_M_keep_108 : decode b_M_keep 108 = .ok (.iload_n 1, 1) := by decide +kernel
theorem d_M_keep_109 : decode b_M_keep 109 = .ok (.bipush 8, 2) := by decide +kernel
theorem d_M_keep_111 : decode b_M_keep 111 = .ok (.iadd, 1) := by decide +kernel
theorem d_M_keep_112 : decode b_M_keep 112 = .ok (.iconst 0, 1) := by decide +kernel
theorem d_M_keep_113 : decode b_M_keep 113 = .ok (.iastore, 1) := by decide +kernel
theorem d_M_keep_114 : decode b_M_keep 114 = .ok (.aload_n 0, 1) := by decide +kernel
theorem d_M_keep_115 : decode b_M_keep 115 = .ok (.getfield 46, 3) := by decide +kernel
theorem d_M_keep_118 : decode b_M_keep 118 = .ok (.iload_n 1, 1) := by decide +kernel
theorem d_M_keep_119 : decode b_M_keep 119 = .ok (.bipush 10, 2) := by decide +kernel
theorem d_M_keep_121 : decode b_M_keep 121 = .ok (.iadd, 1) := by decide +kernel
theorem d_M_keep_122 : decode b_M_keep 122 = .ok (.iconst (-1), 1) := by decide +kernel
theorem d_M_keep_123 : decode b_M_keep 123 = .ok (.iastore, 1) := by decide +kernel
theorem d_M_keep_124 : decode b_M_keep 124 = .ok (.aload_n 0, 1) := by decide +kernel
theorem d_M_keep_125 : decode b_M_keep 125 = .ok (.aload_n 0, 1) := by decide +kernel
theorem d_M_keep_126 : decode b_M_keep 126 = .ok (.getfield 251, 3) := by decide +kernel
theorem d_M_keep_129 : decode b_M_keep 129 = .ok (.iconst 1, 1) := by decide +kernel
theorem d_M_keep_130 : decode b_M_keep 130 = .ok (.iadd, 1) := by decide +kernel
theorem d_M_keep_131 : decode b_M_keep 131 = .ok (.bipush 100, 2) := by decide +kernel
theorem d_M_keep_133 : decode b_M_keep 133 = .ok (.irem, 1) := by decide +kernel
theorem d_M_keep_134 : decode b_M_keep 134 = .ok (.putfield 251, 3) := by decide +kernel
theorem d_M_keep_137 : decode b_M_keep 137 = .ok (.aload_n 0, 1) := by decide +kernel
theorem d_M_keep_138 : decode b_M_keep 138 = .ok (.aload_n 0, 1) := by decide +kernel
theorem d_M_keep_139 : decode b_M_keep 139 = .ok (.getfield 180, 3) := by decide +kernel
theorem d_M_keep_142 : decode b_M_keep 142 = .ok (.bipush 100, 2) := by decide +kernel
theorem d_M_keep_144 : decode b_M_keep 144 = .ok (.if_icmp .ge 12, 3) := by decide +kernel
theorem d_M_keep_147 : decode b_M_keep 147 = .ok (.aload_n 0, 1) := by decide +kernel
theorem d_M_keep_148 : decode b_M_keep 148 = .ok (.getfield 180, 3) := by decide +kernel
theorem d_M_keep_151 : decode b_M_keep 151 = .ok (.iconst 1, 1) := by decide +kernel
theorem d_M_keep_152 : decode b_M_keep 152 = .ok (.iadd, 1) := by decide +kernel
theorem d_M_keep_153 : decode b_M_keep 153 = .ok (.goto 5, 3) := by decide +kernel
theorem d_M_keep_156 : decode b_M_keep 156 = .ok (.bipush 100, 2) := by decide +kernel
theorem d_M_keep_158 : decode b_M_keep 158 = .ok (.putfield 180, 3) := by decide +kernel
theorem d_M_keep_161 : decode b_M_keep 161 = .ok (.return_, 1) := by decide +kernel
theorem d_M_latest_0 : decode b_M_latest 0 = .ok (.bipush 13, 2) := by decide +kernel
theorem d_M_latest_2 : decode b_M_latest 2 = .ok (.aload_n 0, 1) := by decide +kernel
theorem d_M_latest_3 : decode b_M_latest 3 = .ok (.getfield 251, 3) := by decide +kernel
theorem d_M_latest_6 : decode b_M_latest 6 = .ok (.bipush 100, 2) := by decide +kernel
theorem d_M_latest_8 : decode b_M_latest 8 = .ok (.iadd, 1) := by decide +kernel
theorem d_M_latest_9 : decode b_M_latest 9 = .ok (.iconst 1, 1) := by decide +kernel
theorem d_M_latest_10 : decode b_M_latest 10 = .ok (.isub, 1) := by decide +kernel
theorem d_M_latest_11 : decode b_M_latest 11 = .ok (.bipush 100, 2) := by decide +kernel
theorem d_M_latest_13 : decode b_M_latest 13 = .ok (.irem, 1) := by decide +kernel
theorem d_M_latest_14 : decode b_M_latest 14 = .ok (.imul, 1) := by decide +kernel
theorem d_M_latest_15 : decode b_M_latest 15 = .ok (.ireturn, 1) := by decide +kernel
theorem d_M_become_0 : decode b_M_become 0 = .ok (.iload_n 1, 1) := by decide +kernel
theorem d_M_become_1 : decode b_M_become 1 = .ok (.ifCond .ne 4, 3) := by decide +kernel
theorem d_M_become_4 : decode b_M_become 4 = .ok (.return_, 1) := by decide +kernel
theorem d_M_become_5 : decode b_M_become 5 = .ok (.aload_n 0, 1) := by decide +kernel
theorem d_M_become_6 : decode b_M_become 6 = .ok (.getfield 46, 3) := by decide +kernel
theorem d_M_become_9 : decode b_M_become 9 = .ok (.aload_n 0, 1) := by decide +kernel
theorem d_M_become_10 : decode b_M_become 10 = .ok (.invokevirtual 269, 3) := by decide +kernel
theorem d_M_become_13 : decode b_M_become 13 = .ok (.bipush 8, 2) := by decide +kernel
theorem d_M_become_15 : decode b_M_become 15 = .ok (.iadd, 1) := by decide +kernel
theorem d_M_become_16 : decode b_M_become 16 = .ok (.iload_n 1, 1) := by decide +kernel
theorem d_M_become_17 : decode b_M_become 17 = .ok (.iastore, 1) := by decide +kernel
theorem d_M_become_18 : decode b_M_become 18 = .ok (.aload_n 0, 1) := by decide +kernel
theorem d_M_become_19 : decode b_M_become 19 = .ok (.getfield 46, 3) := by decide +kernel
theorem d_M_become_22 : decode b_M_become 22 = .ok (.aload_n 0, 1) := by decide +kernel
theorem d_M_become_23 : decode b_M_become 23 = .ok (.invokevirtual 269, 3) := by decide +kernel
theorem d_M_become_26 : decode b_M_become 26 = .ok (.bipush 9, 2) := by decide +kernel
theorem d_M_become_28 : decode b_M_become 28 = .ok (.iadd, 1) := by decide +kernel
theorem d_M_become_29 : decode b_M_become 29 = .ok (.aload_n 0, 1) := by decide +kernel
theorem d_M_become_30 : decode b_M_become 30 = .ok (.getfield 37, 3) := by decide +kernel
theorem d_M_become_33 : decode b_M_become 33 = .ok (.iload_n 1, 1) := by decide +kernel
theorem d_M_become_34 : decode b_M_become 34 = .ok (.iaload, 1) := by decide +kernel
theorem d_M_become_35 : decode b_M_become 35 = .ok (.iastore, 1) := by decide +kernel
theorem d_M_become_36 : decode b_M_become 36 = .ok (.aload_n 0, 1) := by decide +kernel
theorem d_M_become_37 : decode b_M_become 37 = .ok (.getfield 37, 3) := by decide +kernel
theorem d_M_become_40 : decode b_M_become 40 = .ok (.iload_n 1, 1) := by decide +kernel
theorem d_M_become_41 : decode b_M_become 41 = .ok (.iload_n 2, 1) := by decide +kernel
theorem d_M_become_42 : decode b_M_become 42 = .ok (.iastore, 1) := by decide +kernel
theorem d_M_become_43 : decode b_M_become 43 = .ok (.return_, 1) := by decide +kernel
theorem d_M_store_0 : decode b_M_store 0 = .ok (.aload_n 0, 1) := by decide +kernel
theorem d_M_store_1 : decode b_M_store 1 = .ok (.invokevirtual 269, 3) := by decide +kernel
theorem d_M_store_4 : decode b_M_store 4 = .ok (.istore 4, 2) := by decide +kernel
theorem d_M_store_6 : decode b_M_store 6 = .ok (.aload_n 0, 1) := by decide +kernel
theorem d_M_store_7 : decode b_M_store 7 = .ok (.getfield 46, 3) := by decide +kernel
theorem d_M_store_10 : decode b_M_store 10 = .ok (.iload 4, 2) := by decide +kernel
theorem d_M_store_12 : decode b_M_store 12 = .ok (.bipush 10, 2) := by decide +kernel
theorem d_M_store_14 : decode b_M_store 14 = .ok (.iadd, 1) := by decide +kernel
theorem d_M_store_15 : decode b_M_store 15 = .ok (.iload_n 1, 1) := by decide +kernel
theorem d_M_store_16 : decode b_M_store 16 = .ok (.iastore, 1) := by decide +kernel
theorem d_M_store_17 : decode b_M_store 17 = .ok (.aload_n 0, 1) := by decide +kernel
theorem d_M_store_18 : decode b_M_store 18 = .ok (.getfield 46, 3) := by decide +kernel
theorem d_M_store_21 : decode b_M_store 21 = .ok (.iload 4, 2) := by decide +kernel
theorem d_M_store_23 : decode b_M_store 23 = .ok (.bipush 11, 2) := by decide +kernel
theorem d_M_store_25 : decode b_M_store 25 = .ok (.iadd, 1) := by decide +kernel
theorem d_M_store_26 : decode b_M_store 26 = .ok (.iload_n 2, 1) := by decide +kernel
theorem d_M_store_27 : decode b_M_store 27 = .ok (.iastore, 1) := by decide +kernel
theorem d_M_store_28 : decode b_M_store 28 = .ok (.aload_n 0, 1) := by decide +kernel
theorem d_M_store_29 : decode b_M_store 29 = .ok (.getfield 46, 3) := by decide +kernel
theorem d_M_store_32 : decode b_M_store 32 = .ok (.iload 4, 2) := by decide +kernel
theorem d_M_store_34 : decode b_M_store 34 = .ok (.bipush 12, 2) := by decide +kernel
theorem d_M_store_36 : decode b_M_store 36 = .ok (.iadd, 1) := by decide +kernel
theorem d_M_store_37 : decode b_M_store 37 = .ok (.aload_n 0, 1) := by decide +kernel
theorem d_M_store_38 : decode b_M_store 38 = .ok (.iload_n 1, 1) := by decide +kernel
theorem d_M_store_39 : decode b_M_store 39 = .ok (.iload_n 2, 1) := by decide +kernel
theorem d_M_store_40 : decode b_M_store 40 = .ok (.invokevirtual 233, 3) := by decide +kernel
theorem d_M_store_43 : decode b_M_store 43 = .ok (.iastore, 1) := by decide +kernel
theorem d_M_store_44 : decode b_M_store 44 = .ok (.iconst 0, 1) := by decide +kernel
theorem d_M_store_45 : decode b_M_store 45 = .ok (.istore 5, 2) := by decide +kernel
theorem d_M_store_47 : decode b_M_store 47 = .ok (.iload 5, 2) := by decide +kernel
theorem d_M_store_49 : decode b_M_store 49 = .ok (.iload_n 2, 1) := by decide +kernel
theorem d_M_store_50 : decode b_M_store 50 = .ok (.if_icmp .ge 29, 3) := by decide +kernel
theorem d_M_store_53 : decode b_M_store 53 = .ok (.aload_n 0, 1) := by decide +kernel
theorem d_M_store_54 : decode b_M_store 54 = .ok (.getfield 17, 3) := by decide +kernel
theorem d_M_store_57 : decode b_M_store 57 = .ok (.iload_n 1, 1) := by decide +kernel
theorem d_M_store_58 : decode b_M_store 58 = .ok (.iload 5, 2) := by decide +kernel
theorem d_M_store_60 : decode b_M_store 60 = .ok (.iadd, 1) := by decide +kernel
theorem d_M_store_61 : decode b_M_store 61 = .ok (.iload_n 3, 1) := by decide +kernel
theorem d_M_store_62 : decode b_M_store 62 = .ok (.bipush 8, 2) := by decide +kernel
theorem d_M_store_64 : decode b_M_store 64 = .ok (.iload 5, 2) := by decide +kernel
theorem d_M_store_66 : decode b_M_store 66 = .ok (.imul, 1) := by decide +kernel
theorem d_M_store_67 : decode b_M_store 67 = .ok (.ishr, 1) := by decide +kernel
theorem d_M_store_68 : decode b_M_store 68 = .ok (.sipush 255, 3) := by decide +kernel
theorem d_M_store_71 : decode b_M_store 71 = .ok (.iand, 1) := by decide +kernel
theorem d_M_store_72 : decode b_M_store 72 = .ok (.iastore, 1) := by decide +kernel
theorem d_M_store_73 : decode b_M_store 73 = .ok (.iinc 5 1, 3) := by decide +kernel
theorem d_M_store_76 : decode b_M_store 76 = .ok (.goto (-29), 3) := by decide +kernel
theorem d_M_store_79 : decode b_M_store 79 = .ok (.return_, 1) := by decide +kernel
theorem d_M_loaded_0 : decode b_M_loaded 0 = .ok (.aload_n 0, 1) := by decide +kernel
theorem d_M_loaded_1 : decode b_M_loaded 1 = .ok (.iload_n 1, 1) := by decide +kernel
theorem d_M_loaded_2 : decode b_M_loaded 2 = .ok (.aload_n 0, 1) := by decide +kernel
theorem d_M_loaded_3 : decode b_M_loaded 3 = .ok (.aload_n 0, 1) := by decide +kernel
theorem d_M_loaded_4 : decode b_M_loaded 4 = .ok (.getfield 242, 3) := by decide +kernel
theorem d_M_loaded_7 : decode b_M_loaded 7 = .ok (.invokevirtual 248, 3) := by decide +kernel
theorem d_M_loaded_10 : decode b_M_loaded 10 = .ok (.invokevirtual 233, 3) := by decide +kernel
theorem d_M_loaded_13 : decode b_M_loaded 13 = .ok (.istore_n 2, 1) := by decide +kernel
theorem d_M_loaded_14 : decode b_M_loaded 14 = .ok (.aload_n 0, 1) := by decide +kernel
theorem d_M_loaded_15 : decode b_M_loaded 15 = .ok (.getfield 242, 3) := by decide +kernel
theorem d_M_loaded_18 : decode b_M_loaded 18 = .ok (.bipush 10, 2) := by decide +kernel
theorem d_M_loaded_20 : decode b_M_loaded 20 = .ok (.if_icmp .ne 13, 3) := by decide +kernel
theorem d_M_loaded_23 : decode b_M_loaded 23 = .ok (.iload_n 2, 1) := by decide +kernel
theorem d_M_loaded_24 : decode b_M_loaded 24 = .ok (.bipush 24, 2) := by decide +kernel
theorem d_M_loaded_26 : decode b_M_loaded 26 = .ok (.ishl, 1) := by decide +kernel
theorem d_M_loaded_27 : decode b_M_loaded 27 = .ok (.bipush 24, 2) := by decide +kernel
theorem d_M_loaded_29 : decode b_M_loaded 29 = .ok (.ishr, 1) := by decide +kernel
theorem d_M_loaded_30 : decode b_M_loaded 30 = .ok (.goto 23, 3) := by decide +kernel
theorem d_M_loaded_33 : decode b_M_loaded 33 = .ok (.aload_n 0, 1) := by decide +kernel
theorem d_M_loaded_34 : decode b_M_loaded 34 = .ok (.getfield 242, 3) := by decide +kernel
theorem d_M_loaded_37 : decode b_M_loaded 37 = .ok (.bipush 11, 2) := by decide +kernel
theorem d_M_loaded_39 : decode b_M_loaded 39 = .ok (.if_icmp .ne 13, 3) := by decide +kernel
theorem d_M_loaded_42 : decode b_M_loaded 42 = .ok (.iload_n 2, 1) := by decide +kernel
theorem d_M_loaded_43 : decode b_M_loaded 43 = .ok (.bipush 16, 2) := by decide +kernel
theorem d_M_loaded_45 : decode b_M_loaded 45 = .ok (.ishl, 1) := by decide +kernel
theorem d_M_loaded_46 : decode b_M_loaded 46 = .ok (.bipush 16, 2) := by decide +kernel
theorem d_M_loaded_48 : decode b_M_loaded 48 = .ok (.ishr, 1) := by decide +kernel
theorem d_M_loaded_49 : decode b_M_loaded 49 = .ok (.goto 4, 3) := by decide +kernel
theorem d_M_loaded_52 : decode b_M_loaded 52 = .ok (.iload_n 2, 1) := by decide +kernel
theorem d_M_loaded_53 : decode b_M_loaded 53 = .ok (.ireturn, 1) := by decide +kernel
theorem d_M_truth_0 : decode b_M_truth 0 = .ok (.iload_n 0, 1) := by decide +kernel
theorem d_M_truth_1 : decode b_M_truth 1 = .ok (.ifCond .eq 7, 3) := by decide +kernel
theorem d_M_truth_4 : decode b_M_truth 4 = .ok (.iconst 1, 1) := by decide +kernel
theorem d_M_truth_5 : decode b_M_truth 5 = .ok (.goto 4, 3) := by decide +kernel
theorem d_M_truth_8 : decode b_M_truth 8 = .ok (.iconst 0, 1) := by decide +kernel
theorem d_M_truth_9 : decode b_M_truth 9 = .ok (.ireturn, 1) := by decide +kernel
theorem d_M_reckoned_0 : decode b_M_reckoned 0 = .ok (.iload_n 0, 1) := by decide +kernel
theorem d_M_reckoned_1 : decode b_M_reckoned 1 = .ok (.tableswitch 167 18 36 #[91, 99, 113, 134, 138, 142, 146, 153, 160, 91, 95, 146, 99, 113, 134, 153, 160, 138, 142], 91) := by decide +kernel
theorem d_M_reckoned_92 : decode b_M_reckoned 92 = .ok (.iload_n 1, 1) := by decide +kernel
theorem d_M_reckoned_93 : decode b_M_reckoned 93 = .ok (.iload_n 2, 1) := by decide +kernel
theorem d_M_reckoned_94 : decode b_M_reckoned 94 = .ok (.iadd, 1) := by decide +kernel
theorem d_M_reckoned_95 : decode b_M_reckoned 95 = .ok (.ireturn, 1) := by decide +kernel
theorem d_M_reckoned_96 : decode b_M_reckoned 96 = .ok (.iload_n 1, 1) := by decide +kernel
theorem d_M_reckoned_97 : decode b_M_reckoned 97 = .ok (.iload_n 2, 1) := by decide +kernel
theorem d_M_reckoned_98 : decode b_M_reckoned 98 = .ok (.isub, 1) := by decide +kernel
theorem d_M_reckoned_99 : decode b_M_reckoned 99 = .ok (.ireturn, 1) := by decide +kernel
theorem d_M_reckoned_100 : decode b_M_reckoned 100 = .ok (.iload_n 1, 1) := by decide +kernel
theorem d_M_reckoned_101 : decode b_M_reckoned 101 = .ok (.iload_n 2, 1) := by decide +kernel
theorem d_M_reckoned_102 : decode b_M_reckoned 102 = .ok (.if_icmp .ge 7, 3) := by decide +kernel
theorem d_M_reckoned_105 : decode b_M_reckoned 105 = .ok (.iconst 1, 1) := by decide +kernel
theorem d_M_reckoned_106 : decode b_M_reckoned 106 = .ok (.goto 4, 3) := by decide +kernel
theorem d_M_reckoned_109 : decode b_M_reckoned 109 = .ok (.iconst 0, 1) := by decide +kernel
theorem d_M_reckoned_110 : decode b_M_reckoned 110 = .ok (.invokestatic 273, 3) := by decide +kernel
theorem d_M_reckoned_113 : decode b_M_reckoned 113 = .ok (.ireturn, 1) := by decide +kernel
theorem d_M_reckoned_114 : decode b_M_reckoned 114 = .ok (.iload_n 1, 1) := by decide +kernel
theorem d_M_reckoned_115 : decode b_M_reckoned 115 = .ok (.invokestatic 221, 3) := by decide +kernel
theorem d_M_reckoned_118 : decode b_M_reckoned 118 = .ok (.iload_n 2, 1) := by decide +kernel
theorem d_M_reckoned_119 : decode b_M_reckoned 119 = .ok (.invokestatic 221, 3) := by decide +kernel
theorem d_M_reckoned_122 : decode b_M_reckoned 122 = .ok (.lcmp, 1) := by decide +kernel
theorem d_M_reckoned_123 : decode b_M_reckoned 123 = .ok (.ifCond .ge 7, 3) := by decide +kernel
theorem d_M_reckoned_126 : decode b_M_reckoned 126 = .ok (.iconst 1, 1) := by decide +kernel
theorem d_M_reckoned_127 : decode b_M_reckoned 127 = .ok (.goto 4, 3) := by decide +kernel
theorem d_M_reckoned_130 : decode b_M_reckoned 130 = .ok (.iconst 0, 1) := by decide +kernel
theorem d_M_reckoned_131 : decode b_M_reckoned 131 = .ok (.invokestatic 273, 3) := by decide +kernel
theorem d_M_reckoned_134 : decode b_M_reckoned 134 = .ok (.ireturn, 1) := by decide +kernel
theorem d_M_reckoned_135 : decode b_M_reckoned 135 = .ok (.iload_n 1, 1) := by decide +kernel
theorem d_M_reckoned_136 : decode b_M_reckoned 136 = .ok (.iload_n 2, 1) := by decide +kernel
theorem d_M_reckoned_137 : decode b_M_reckoned 137 = .ok (.ixor, 1) := by decide +kernel
theorem d_M_reckoned_138 : decode b_M_reckoned 138 = .ok (.ireturn, 1) := by decide +kernel
theorem d_M_reckoned_139 : decode b_M_reckoned 139 = .ok (.iload_n 1, 1) := by decide +kernel
theorem d_M_reckoned_140 : decode b_M_reckoned 140 = .ok (.iload_n 2, 1) := by decide +kernel
theorem d_M_reckoned_141 : decode b_M_reckoned 141 = .ok (.ior, 1) := by decide +kernel
theorem d_M_reckoned_142 : decode b_M_reckoned 142 = .ok (.ireturn, 1) := by decide +kernel
theorem d_M_reckoned_143 : decode b_M_reckoned 143 = .ok (.iload_n 1, 1) := by decide +kernel
theorem d_M_reckoned_144 : decode b_M_reckoned 144 = .ok (.iload_n 2, 1) := by decide +kernel
theorem d_M_reckoned_145 : decode b_M_reckoned 145 = .ok (.iand, 1) := by decide +kernel
theorem d_M_reckoned_146 : decode b_M_reckoned 146 = .ok (.ireturn, 1) := by decide +kernel
theorem d_M_reckoned_147 : decode b_M_reckoned 147 = .ok (.iload_n 1, 1) := by decide +kernel
theorem d_M_reckoned_148 : decode b_M_reckoned 148 = .ok (.iload_n 2, 1) := by decide +kernel
theorem d_M_reckoned_149 : decode b_M_reckoned 149 = .ok (.bipush 31, 2) := by decide +kernel
theorem d_M_reckoned_151 : decode b_M_reckoned 151 = .ok (.iand, 1) := by decide +kernel
theorem d_M_reckoned_152 : decode b_M_reckoned 152 = .ok (.ishl, 1) := by decide +kernel
theorem d_M_reckoned_153 : decode b_M_reckoned 153 = .ok (.ireturn, 1) := by decide +kernel
theorem d_M_reckoned_154 : decode b_M_reckoned 154 = .ok (.iload_n 1, 1) := by decide +kernel
theorem d_M_reckoned_155 : decode b_M_reckoned 155 = .ok (.iload_n 2, 1) := by decide +kernel
theorem d_M_reckoned_156 : decode b_M_reckoned 156 = .ok (.bipush 31, 2) := by decide +kernel
theorem d_M_reckoned_158 : decode b_M_reckoned 158 = .ok (.iand, 1) := by decide +kernel
theorem d_M_reckoned_159 : decode b_M_reckoned 159 = .ok (.iushr, 1) := by decide +kernel
theorem d_M_reckoned_160 : decode b_M_reckoned 160 = .ok (.ireturn, 1) := by decide +kernel
theorem d_M_reckoned_161 : decode b_M_reckoned 161 = .ok (.iload_n 1, 1) := by decide +kernel
theorem d_M_reckoned_162 : decode b_M_reckoned 162 = .ok (.iload_n 2, 1) := by decide +kernel
theorem d_M_reckoned_163 : decode b_M_reckoned 163 = .ok (.bipush 31, 2) := by decide +kernel
theorem d_M_reckoned_165 : decode b_M_reckoned 165 = .ok (.iand, 1) := by decide +kernel
theorem d_M_reckoned_166 : decode b_M_reckoned 166 = .ok (.ishr, 1) := by decide +kernel
theorem d_M_reckoned_167 : decode b_M_reckoned 167 = .ok (.ireturn, 1) := by decide +kernel
theorem d_M_reckoned_168 : decode b_M_reckoned 168 = .ok (.iload_n 0, 1) := by decide +kernel
theorem d_M_reckoned_169 : decode b_M_reckoned 169 = .ok (.iload_n 1, 1) := by decide +kernel
theorem d_M_reckoned_170 : decode b_M_reckoned 170 = .ok (.iload_n 2, 1) := by decide +kernel
theorem d_M_reckoned_171 : decode b_M_reckoned 171 = .ok (.invokestatic 277, 3) := by decide +kernel
theorem d_M_reckoned_174 : decode b_M_reckoned 174 = .ok (.ireturn, 1) := by decide +kernel
theorem d_M_multiplied_0 : decode b_M_multiplied 0 = .ok (.iload_n 0, 1) := by decide +kernel
theorem d_M_multiplied_1 : decode b_M_multiplied 1 = .ok (.tableswitch 145 37 43 #[43, 47, 57, 69, 83, 105, 124], 43) := by decide +kernel
theorem d_M_multiplied_44 : decode b_M_multiplied 44 = .ok (.iload_n 1, 1) := by decide +kernel
theorem d_M_multiplied_45 : decode b_M_multiplied 45 = .ok (.iload_n 2, 1) := by decide +kernel
theorem d_M_multiplied_46 : decode b_M_multiplied 46 = .ok (.imul, 1) := by decide +kernel
theorem d_M_multiplied_47 : decode b_M_multiplied 47 = .ok (.ireturn, 1) := by decide +kernel
theorem d_M_multiplied_48 : decode b_M_multiplied 48 = .ok (.iload_n 1, 1) := by decide +kernel
theorem d_M_multiplied_49 : decode b_M_multiplied 49 = .ok (.i2l, 1) := by decide +kernel
theorem d_M_multiplied_50 : decode b_M_multiplied 50 = .ok (.iload_n 2, 1) := by decide +kernel
theorem d_M_multiplied_51 : decode b_M_multiplied 51 = .ok (.i2l, 1) := by decide +kernel
theorem d_M_multiplied_52 : decode b_M_multiplied 52 = .ok (.lmul, 1) := by decide +kernel
theorem d_M_multiplied_53 : decode b_M_multiplied 53 = .ok (.bipush 32, 2) := by decide +kernel
theorem d_M_multiplied_55 : decode b_M_multiplied 55 = .ok (.lshr, 1) := by decide +kernel
theorem d_M_multiplied_56 : decode b_M_multiplied 56 = .ok (.l2i, 1) := by decide +kernel
theorem d_M_multiplied_57 : decode b_M_multiplied 57 = .ok (.ireturn, 1) := by decide +kernel
theorem d_M_multiplied_58 : decode b_M_multiplied 58 = .ok (.iload_n 1, 1) := by decide +kernel
theorem d_M_multiplied_59 : decode b_M_multiplied 59 = .ok (.i2l, 1) := by decide +kernel
theorem d_M_multiplied_60 : decode b_M_multiplied 60 = .ok (.iload_n 2, 1) := by decide +kernel
theorem d_M_multiplied_61 : decode b_M_multiplied 61 = .ok (.invokestatic 221, 3) := by decide +kernel
theorem d_M_multiplied_64 : decode b_M_multiplied 64 = .ok (.lmul, 1) := by decide +kernel
theorem d_M_multiplied_65 : decode b_M_multiplied 65 = .ok (.bipush 32, 2) := by decide +kernel
theorem d_M_multiplied_67 : decode b_M_multiplied 67 = .ok (.lshr, 1) := by decide +kernel
theorem d_M_multiplied_68 : decode b_M_multiplied 68 = .ok (.l2i, 1) := by decide +kernel
theorem d_M_multiplied_69 : decode b_M_multiplied 69 = .ok (.ireturn, 1) := by decide +kernel
theorem d_M_multiplied_70 : decode b_M_multiplied 70 = .ok (.iload_n 1, 1) := by decide +kernel
theorem d_M_multiplied_71 : decode b_M_multiplied 71 = .ok (.invokestatic 221, 3) := by decide +kernel
theorem d_M_multiplied_74 : decode b_M_multiplied 74 = .ok (.iload_n 2, 1) := by decide +kernel
theorem d_M_multiplied_75 : decode b_M_multiplied 75 = .ok (.invokestatic 221, 3) := by decide +kernel
theorem d_M_multiplied_78 : decode b_M_multiplied 78 = .ok (.lmul, 1) := by decide +kernel
theorem d_M_multiplied_79 : decode b_M_multiplied 79 = .ok (.bipush 32, 2) := by decide +kernel
theorem d_M_multiplied_81 : decode b_M_multiplied 81 = .ok (.lushr, 1) := by decide +kernel
theorem d_M_multiplied_82 : decode b_M_multiplied 82 = .ok (.l2i, 1) := by decide +kernel
theorem d_M_multiplied_83 : decode b_M_multiplied 83 = .ok (.ireturn, 1) := by decide +kernel
theorem d_M_multiplied_84 : decode b_M_multiplied 84 = .ok (.iload_n 2, 1) := by decide +kernel
theorem d_M_multiplied_85 : decode b_M_multiplied 85 = .ok (.ifCond .ne 7, 3) := by decide +kernel
theorem d_M_multiplied_88 : decode b_M_multiplied 88 = .ok (.iconst (-1), 1) := by decide +kernel
theorem d_M_multiplied_89 : decode b_M_multiplied 89 = .ok (.goto 16, 3) := by decide +kernel
theorem d_M_multiplied_92 : decode b_M_multiplied 92 = .ok (.iload_n 2, 1) := by decide +kernel
theorem d_M_multiplied_93 : decode b_M_multiplied 93 = .ok (.iconst (-1), 1) := by decide +kernel
theorem d_M_multiplied_94 : decode b_M_multiplied 94 = .ok (.if_icmp .ne 8, 3) := by decide +kernel
theorem d_M_multiplied_97 : decode b_M_multiplied 97 = .ok (.iload_n 1, 1) := by decide +kernel
theorem d_M_multiplied_98 : decode b_M_multiplied 98 = .ok (.ineg, 1) := by decide +kernel
theorem d_M_multiplied_99 : decode b_M_multiplied 99 = .ok (.goto 6, 3) := by decide +kernel
theorem d_M_multiplied_102 : decode b_M_multiplied 102 = .ok (.iload_n 1, 1) := by decide +kernel
theorem d_M_multiplied_103 : decode b_M_multiplied 103 = .ok (.iload_n 2, 1) := by decide +kernel
theorem d_M_multiplied_104 : decode b_M_multiplied 104 = .ok (.idiv, 1) := by decide +kernel
theorem d_M_multiplied_105 : decode b_M_multiplied 105 = .ok (.ireturn, 1) := by decide +kernel
theorem d_M_multiplied_106 : decode b_M_multiplied 106 = .ok (.iload_n 2, 1) := by decide +kernel
theorem d_M_multiplied_107 : decode b_M_multiplied 107 = .ok (.ifCond .ne 7, 3) := by decide +kernel
theorem d_M_multiplied_110 : decode b_M_multiplied 110 = .ok (.iconst (-1), 1) := by decide +kernel
theorem d_M_multiplied_111 : decode b_M_multiplied 111 = .ok (.goto 13, 3) := by decide +kernel
theorem d_M_multiplied_114 : decode b_M_multiplied 114 = .ok (.iload_n 1, 1) := by decide +kernel
theorem d_M_multiplied_115 : decode b_M_multiplied 115 = .ok (.invokestatic 221, 3) := by decide +kernel
theorem d_M_multiplied_118 : decode b_M_multiplied 118 = .ok (.iload_n 2, 1) := by decide +kernel
theorem d_M_multiplied_119 : decode b_M_multiplied 119 = .ok (.invokestatic 221, 3) := by decide +kernel
theorem d_M_multiplied_122 : decode b_M_multiplied 122 = .ok (.ldiv, 1) := by decide +kernel
theorem d_M_multiplied_123 : decode b_M_multiplied 123 = .ok (.l2i, 1) := by decide +kernel
theorem d_M_multiplied_124 : decode b_M_multiplied 124 = .ok (.ireturn, 1) := by decide +kernel
theorem d_M_multiplied_125 : decode b_M_multiplied 125 = .ok (.iload_n 2, 1) := by decide +kernel
theorem d_M_multiplied_126 : decode b_M_multiplied 126 = .ok (.ifCond .ne 7, 3) := by decide +kernel
theorem d_M_multiplied_129 : decode b_M_multiplied 129 = .ok (.iload_n 1, 1) := by decide +kernel
theorem d_M_multiplied_130 : decode b_M_multiplied 130 = .ok (.goto 15, 3) := by decide +kernel
theorem d_M_multiplied_133 : decode b_M_multiplied 133 = .ok (.iload_n 2, 1) := by decide +kernel
theorem d_M_multiplied_134 : decode b_M_multiplied 134 = .ok (.iconst (-1), 1) := by decide +kernel
theorem d_M_multiplied_135 : decode b_M_multiplied 135 = .ok (.if_icmp .ne 7, 3) := by decide +kernel
theorem d_M_multiplied_138 : decode b_M_multiplied 138 = .ok (.iconst 0, 1) := by decide +kernel
theorem d_M_multiplied_139 : decode b_M_multiplied 139 = .ok (.goto 6, 3) := by decide +kernel
theorem d_M_multiplied_142 : decode b_M_multiplied 142 = .ok (.iload_n 1, 1) := by decide +kernel
theorem d_M_multiplied_143 : decode b_M_multiplied 143 = .ok (.iload_n 2, 1) := by decide +kernel
theorem d_M_multiplied_144 : decode b_M_multiplied 144 = .ok (.irem, 1) := by decide +kernel
theorem d_M_multiplied_145 : decode b_M_multiplied 145 = .ok (.ireturn, 1) := by decide +kernel
theorem d_M_multiplied_146 : decode b_M_multiplied 146 = .ok (.iload_n 2, 1) := by decide +kernel
theorem d_M_multiplied_147 : decode b_M_multiplied 147 = .ok (.ifCond .ne 7, 3) := by decide +kernel
theorem d_M_multiplied_150 : decode b_M_multiplied 150 = .ok (.iload_n 1, 1) := by decide +kernel
theorem d_M_multiplied_151 : decode b_M_multiplied 151 = .ok (.goto 13, 3) := by decide +kernel
theorem d_M_multiplied_154 : decode b_M_multiplied 154 = .ok (.iload_n 1, 1) := by decide +kernel
theorem d_M_multiplied_155 : decode b_M_multiplied 155 = .ok (.invokestatic 221, 3) := by decide +kernel
theorem d_M_multiplied_158 : decode b_M_multiplied 158 = .ok (.iload_n 2, 1) := by decide +kernel
theorem d_M_multiplied_159 : decode b_M_multiplied 159 = .ok (.invokestatic 221, 3) := by decide +kernel
theorem d_M_multiplied_162 : decode b_M_multiplied 162 = .ok (.lrem, 1) := by decide +kernel
theorem d_M_multiplied_163 : decode b_M_multiplied 163 = .ok (.l2i, 1) := by decide +kernel
theorem d_M_multiplied_164 : decode b_M_multiplied 164 = .ok (.ireturn, 1) := by decide +kernel
theorem d_M_branches_0 : decode b_M_branches 0 = .ok (.iload_n 0, 1) := by decide +kernel
theorem d_M_branches_1 : decode b_M_branches 1 = .ok (.tableswitch 97 4 8 #[35, 46, 57, 68, 79], 35) := by decide +kernel
theorem d_M_branches_36 : decode b_M_branches 36 = .ok (.iload_n 1, 1) := by decide +kernel
theorem d_M_branches_37 : decode b_M_branches 37 = .ok (.iload_n 2, 1) := by decide +kernel
theorem d_M_branches_38 : decode b_M_branches 38 = .ok (.if_icmp .ne 7, 3) := by decide +kernel
theorem d_M_branches_41 : decode b_M_branches 41 = .ok (.iconst 1, 1) := by decide +kernel
theorem d_M_branches_42 : decode b_M_branches 42 = .ok (.goto 4, 3) := by decide +kernel
theorem d_M_branches_45 : decode b_M_branches 45 = .ok (.iconst 0, 1) := by decide +kernel
theorem d_M_branches_46 : decode b_M_branches 46 = .ok (.ireturn, 1) := by decide +kernel
theorem d_M_branches_47 : decode b_M_branches 47 = .ok (.iload_n 1, 1) := by decide +kernel
theorem d_M_branches_48 : decode b_M_branches 48 = .ok (.iload_n 2, 1) := by decide +kernel
theorem d_M_branches_49 : decode b_M_branches 49 = .ok (.if_icmp .eq 7, 3) := by decide +kernel
theorem d_M_branches_52 : decode b_M_branches 52 = .ok (.iconst 1, 1) := by decide +kernel
theorem d_M_branches_53 : decode b_M_branches 53 = .ok (.goto 4, 3) := by decide +kernel
theorem d_M_branches_56 : decode b_M_branches 56 = .ok (.iconst 0, 1) := by decide +kernel
theorem d_M_branches_57 : decode b_M_branches 57 = .ok (.ireturn, 1) := by decide +kernel
theorem d_M_branches_58 : decode b_M_branches 58 = .ok (.iload_n 1, 1) := by decide +kernel
theorem d_M_branches_59 : decode b_M_branches 59 = .ok (.iload_n 2, 1) := by decide +kernel
theorem d_M_branches_60 : decode b_M_branches 60 = .ok (.if_icmp .ge 7, 3) := by decide +kernel
theorem d_M_branches_63 : decode b_M_branches 63 = .ok (.iconst 1, 1) := by decide +kernel
theorem d_M_branches_64 : decode b_M_branches 64 = .ok (.goto 4, 3) := by decide +kernel
theorem d_M_branches_67 : decode b_M_branches 67 = .ok (.iconst 0, 1) := by decide +kernel
theorem d_M_branches_68 : decode b_M_branches 68 = .ok (.ireturn, 1) := by decide +kernel
theorem d_M_branches_69 : decode b_M_branches 69 = .ok (.iload_n 1, 1) := by decide +kernel
theorem d_M_branches_70 : decode b_M_branches 70 = .ok (.iload_n 2, 1) := by decide +kernel
theorem d_M_branches_71 : decode b_M_branches 71 = .ok (.if_icmp .lt 7, 3) := by decide +kernel
theorem d_M_branches_74 : decode b_M_branches 74 = .ok (.iconst 1, 1) := by decide +kernel
theorem d_M_branches_75 : decode b_M_branches 75 = .ok (.goto 4, 3) := by decide +kernel
theorem d_M_branches_78 : decode b_M_branches 78 = .ok (.iconst 0, 1) := by decide +kernel
theorem d_M_branches_79 : decode b_M_branches 79 = .ok (.ireturn, 1) := by decide +kernel
theorem d_M_branches_80 : decode b_M_branches 80 = .ok (.iload_n 1, 1) := by decide +kernel
theorem d_M_branches_81 : decode b_M_branches 81 = .ok (.invokestatic 221, 3) := by decide +kernel
theorem d_M_branches_84 : decode b_M_branches 84 = .ok (.iload_n 2, 1) := by decide +kernel
theorem d_M_branches_85 : decode b_M_branches 85 = .ok (.invokestatic 221, 3) := by decide +kernel
theorem d_M_branches_88 : decode b_M_branches 88 = .ok (.lcmp, 1) := by decide +kernel
theorem d_M_branches_89 : decode b_M_branches 89 = .ok (.ifCond .ge 7, 3) := by decide +kernel
theorem d_M_branches_92 : decode b_M_branches 92 = .ok (.iconst 1, 1) := by decide +kernel
theorem d_M_branches_93 : decode b_M_branches 93 = .ok (.goto 4, 3) := by decide +kernel
theorem d_M_branches_96 : decode b_M_branches 96 = .ok (.iconst 0, 1) := by decide +kernel
theorem d_M_branches_97 : decode b_M_branches 97 = .ok (.ireturn, 1) := by decide +kernel
theorem d_M_branches_98 : decode b_M_branches 98 = .ok (.iload_n 1, 1) := by decide +kernel
theorem d_M_branches_99 : decode b_M_branches 99 = .ok (.invokestatic 221, 3) := by decide +kernel
theorem d_M_branches_102 : decode b_M_branches 102 = .ok (.iload_n 2, 1) := by decide +kernel
theorem d_M_branches_103 : decode b_M_branches 103 = .ok (.invokestatic 221, 3) := by decide +kernel
theorem d_M_branches_106 : decode b_M_branches 106 = .ok (.lcmp, 1) := by decide +kernel
theorem d_M_branches_107 : decode b_M_branches 107 = .ok (.ifCond .lt 7, 3) := by decide +kernel
theorem d_M_branches_110 : decode b_M_branches 110 = .ok (.iconst 1, 1) := by decide +kernel
theorem d_M_branches_111 : decode b_M_branches 111 = .ok (.goto 4, 3) := by decide +kernel
theorem d_M_branches_114 : decode b_M_branches 114 = .ok (.iconst 0, 1) := by decide +kernel
theorem d_M_branches_115 : decode b_M_branches 115 = .ok (.ireturn, 1) := by decide +kernel
theorem d_M_serve_0 : decode b_M_serve 0 = .ok (.aload_n 0, 1) := by decide +kernel
theorem d_M_serve_1 : decode b_M_serve 1 = .ok (.getfield 257, 3) := by decide +kernel
theorem d_M_serve_4 : decode b_M_serve 4 = .ok (.istore_n 1, 1) := by decide +kernel
theorem d_M_serve_5 : decode b_M_serve 5 = .ok (.aload_n 0, 1) := by decide +kernel
theorem d_M_serve_6 : decode b_M_serve 6 = .ok (.getfield 37, 3) := by decide +kernel
theorem d_M_serve_9 : decode b_M_serve 9 = .ok (.bipush 17, 2) := by decide +kernel
theorem d_M_serve_11 : decode b_M_serve 11 = .ok (.iaload, 1) := by decide +kernel
theorem d_M_serve_12 : decode b_M_serve 12 = .ok (.tableswitch 225 1 10 #[56, 127, 190, 225, 225, 225, 225, 225, 225, 200], 56) := by decide +kernel
theorem d_M_serve_68 : decode b_M_serve 68 = .ok (.aload_n 0, 1) := by decide +kernel
