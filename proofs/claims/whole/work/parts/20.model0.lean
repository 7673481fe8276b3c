theorem d_M_init_0 : decode b_M_init 0 = .ok (.aload_n 0, 1) := by decide +kernel
theorem d_M_init_1 : decode b_M_init 1 = .ok (.invokespecial 1, 3) := by decide +kernel
theorem d_M_init_4 : decode b_M_init 4 = .ok (.aload_n 0, 1) := by decide +kernel
theorem d_M_init_5 : decode b_M_init 5 = .ok (.sipush 2400, 3) := by decide +kernel
theorem d_M_init_8 : decode b_M_init 8 = .ok (.newarray .int, 2) := by decide +kernel
theorem d_M_init_10 : decode b_M_init 10 = .ok (.putfield 7, 3) := by decide +kernel
theorem d_M_init_13 : decode b_M_init 13 = .ok (.aload_n 0, 1) := by decide +kernel
theorem d_M_init_14 : decode b_M_init 14 = .ok (.iconst 4, 1) := by decide +kernel
theorem d_M_init_15 : decode b_M_init 15 = .ok (.newarray .int, 2) := by decide +kernel
theorem d_M_init_17 : decode b_M_init 17 = .ok (.putfield 13, 3) := by decide +kernel
theorem d_M_init_20 : decode b_M_init 20 = .ok (.aload_n 0, 1) := by decide +kernel
theorem d_M_init_21 : decode b_M_init 21 = .ok (.ldc 16, 2) := by decide +kernel
theorem d_M_init_23 : decode b_M_init 23 = .ok (.newarray .int, 2) := by decide +kernel
theorem d_M_init_25 : decode b_M_init 25 = .ok (.putfield 17, 3) := by decide +kernel
theorem d_M_init_28 : decode b_M_init 28 = .ok (.aload_n 0, 1) := by decide +kernel
theorem d_M_init_29 : decode b_M_init 29 = .ok (.ldc 20, 2) := by decide +kernel
theorem d_M_init_31 : decode b_M_init 31 = .ok (.newarray .boolean, 2) := by decide +kernel
theorem d_M_init_33 : decode b_M_init 33 = .ok (.putfield 21, 3) := by decide +kernel
theorem d_M_init_36 : decode b_M_init 36 = .ok (.aload_n 0, 1) := by decide +kernel
theorem d_M_init_37 : decode b_M_init 37 = .ok (.bipush 8, 2) := by decide +kernel
theorem d_M_init_39 : decode b_M_init 39 = .ok (.newarray .int, 2) := by decide +kernel
theorem d_M_init_41 : decode b_M_init 41 = .ok (.putfield 25, 3) := by decide +kernel
theorem d_M_init_44 : decode b_M_init 44 = .ok (.aload_n 0, 1) := by decide +kernel
theorem d_M_init_45 : decode b_M_init 45 = .ok (.bipush 8, 2) := by decide +kernel
theorem d_M_init_47 : decode b_M_init 47 = .ok (.newarray .int, 2) := by decide +kernel
theorem d_M_init_49 : decode b_M_init 49 = .ok (.putfield 28, 3) := by decide +kernel
theorem d_M_init_52 : decode b_M_init 52 = .ok (.aload_n 0, 1) := by decide +kernel
theorem d_M_init_53 : decode b_M_init 53 = .ok (.bipush 8, 2) := by decide +kernel
theorem d_M_init_55 : decode b_M_init 55 = .ok (.newarray .int, 2) := by decide +kernel
theorem d_M_init_57 : decode b_M_init 57 = .ok (.putfield 31, 3) := by decide +kernel
theorem d_M_init_60 : decode b_M_init 60 = .ok (.aload_n 0, 1) := by decide +kernel
theorem d_M_init_61 : decode b_M_init 61 = .ok (.bipush 8, 2) := by decide +kernel
theorem d_M_init_63 : decode b_M_init 63 = .ok (.newarray .int, 2) := by decide +kernel
theorem d_M_init_65 : decode b_M_init 65 = .ok (.putfield 34, 3) := by decide +kernel
theorem d_M_init_68 : decode b_M_init 68 = .ok (.aload_n 0, 1) := by decide +kernel
theorem d_M_init_69 : decode b_M_init 69 = .ok (.bipush 32, 2) := by decide +kernel
theorem d_M_init_71 : decode b_M_init 71 = .ok (.newarray .int, 2) := by decide +kernel
theorem d_M_init_73 : decode b_M_init 73 = .ok (.putfield 37, 3) := by decide +kernel
theorem d_M_init_76 : decode b_M_init 76 = .ok (.aload_n 0, 1) := by decide +kernel
theorem d_M_init_77 : decode b_M_init 77 = .ok (.sipush 1000, 3) := by decide +kernel
theorem d_M_init_80 : decode b_M_init 80 = .ok (.newarray .int, 2) := by decide +kernel
theorem d_M_init_82 : decode b_M_init 82 = .ok (.putfield 40, 3) := by decide +kernel
theorem d_M_init_85 : decode b_M_init 85 = .ok (.aload_n 0, 1) := by decide +kernel
theorem d_M_init_86 : decode b_M_init 86 = .ok (.sipush 2000, 3) := by decide +kernel
theorem d_M_init_89 : decode b_M_init 89 = .ok (.newarray .int, 2) := by decide +kernel
theorem d_M_init_91 : decode b_M_init 91 = .ok (.putfield 43, 3) := by decide +kernel
theorem d_M_init_94 : decode b_M_init 94 = .ok (.aload_n 0, 1) := by decide +kernel
theorem d_M_init_95 : decode b_M_init 95 = .ok (.sipush 1300, 3) := by decide +kernel
theorem d_M_init_98 : decode b_M_init 98 = .ok (.newarray .int, 2) := by decide +kernel
theorem d_M_init_100 : decode b_M_init 100 = .ok (.putfield 46, 3) := by decide +kernel
theorem d_M_init_103 : decode b_M_init 103 = .ok (.iconst 0, 1) := by decide +kernel
theorem d_M_init_104 : decode b_M_init 104 = .ok (.istore_n 1, 1) := by decide +kernel
theorem d_M_init_105 : decode b_M_init 105 = .ok (.iload_n 1, 1) := by decide +kernel
theorem d_M_init_106 : decode b_M_init 106 = .ok (.bipush 75, 2) := by decide +kernel
theorem d_M_init_108 : decode b_M_init 108 = .ok (.if_icmp .ge 14, 3) := by decide +kernel
theorem d_M_init_111 : decode b_M_init 111 = .ok (.aload_n 0, 1) := by decide +kernel
theorem d_M_init_112 : decode b_M_init 112 = .ok (.iload_n 1, 1) := by decide +kernel
theorem d_M_init_113 : decode b_M_init 113 = .ok (.invokevirtual 49, 3) := by decide +kernel
theorem d_M_init_116 : decode b_M_init 116 = .ok (.iinc 1 1, 3) := by decide +kernel
theorem d_M_init_119 : decode b_M_init 119 = .ok (.goto (-14), 3) := by decide +kernel
theorem d_M_init_122 : decode b_M_init 122 = .ok (.aload_n 0, 1) := by decide +kernel
theorem d_M_init_123 : decode b_M_init 123 = .ok (.invokevirtual 53, 3) := by decide +kernel
theorem d_M_init_126 : decode b_M_init 126 = .ok (.return_, 1) := by decide +kernel
theorem d_M_lay_0 : decode b_M_lay 0 = .ok (.iload_n 2, 1) := by decide +kernel
theorem d_M_lay_1 : decode b_M_lay 1 = .ok (.istore 6, 2) := by decide +kernel
theorem d_M_lay_3 : decode b_M_lay 3 = .ok (.iload 6, 2) := by decide +kernel
theorem d_M_lay_5 : decode b_M_lay 5 = .ok (.iload_n 3, 1) := by decide +kernel
theorem d_M_lay_6 : decode b_M_lay 6 = .ok (.if_icmp .lt 31, 3) := by decide +kernel
theorem d_M_lay_9 : decode b_M_lay 9 = .ok (.aload_n 0, 1) := by decide +kernel
theorem d_M_lay_10 : decode b_M_lay 10 = .ok (.getfield 7, 3) := by decide +kernel
theorem d_M_lay_13 : decode b_M_lay 13 = .ok (.bipush 32, 2) := by decide +kernel
theorem d_M_lay_15 : decode b_M_lay 15 = .ok (.iload_n 1, 1) := by decide +kernel
theorem d_M_lay_16 : decode b_M_lay 16 = .ok (.imul, 1) := by decide +kernel
theorem d_M_lay_17 : decode b_M_lay 17 = .ok (.iload 6, 2) := by decide +kernel
theorem d_M_lay_19 : decode b_M_lay 19 = .ok (.iadd, 1) := by decide +kernel
theorem d_M_lay_20 : decode b_M_lay 20 = .ok (.iload 4, 2) := by decide +kernel
theorem d_M_lay_22 : decode b_M_lay 22 = .ok (.iload 5, 2) := by decide +kernel
theorem d_M_lay_24 : decode b_M_lay 24 = .ok (.iadd, 1) := by decide +kernel
theorem d_M_lay_25 : decode b_M_lay 25 = .ok (.iload_n 2, 1) := by decide +kernel
theorem d_M_lay_26 : decode b_M_lay 26 = .ok (.iload 6, 2) := by decide +kernel
theorem d_M_lay_28 : decode b_M_lay 28 = .ok (.isub, 1) := by decide +kernel
theorem d_M_lay_29 : decode b_M_lay 29 = .ok (.isub, 1) := by decide +kernel
theorem d_M_lay_30 : decode b_M_lay 30 = .ok (.iastore, 1) := by decide +kernel
theorem d_M_lay_31 : decode b_M_lay 31 = .ok (.iinc 6 (-1), 3) := by decide +kernel
theorem d_M_lay_34 : decode b_M_lay 34 = .ok (.goto (-31), 3) := by decide +kernel
theorem d_M_lay_37 : decode b_M_lay 37 = .ok (.return_, 1) := by decide +kernel
theorem d_M_fix_0 : decode b_M_fix 0 = .ok (.iconst 0, 1) := by decide +kernel
theorem d_M_fix_1 : decode b_M_fix 1 = .ok (.istore 5, 2) := by decide +kernel
theorem d_M_fix_3 : decode b_M_fix 3 = .ok (.iload 5, 2) := by decide +kernel
theorem d_M_fix_5 : decode b_M_fix 5 = .ok (.iload_n 3, 1) := by decide +kernel
theorem d_M_fix_6 : decode b_M_fix 6 = .ok (.if_icmp .ge 30, 3) := by decide +kernel
theorem d_M_fix_9 : decode b_M_fix 9 = .ok (.aload_n 0, 1) := by decide +kernel
theorem d_M_fix_10 : decode b_M_fix 10 = .ok (.getfield 7, 3) := by decide +kernel
theorem d_M_fix_13 : decode b_M_fix 13 = .ok (.bipush 32, 2) := by decide +kernel
theorem d_M_fix_15 : decode b_M_fix 15 = .ok (.iload_n 1, 1) := by decide +kernel
theorem d_M_fix_16 : decode b_M_fix 16 = .ok (.imul, 1) := by decide +kernel
theorem d_M_fix_17 : decode b_M_fix 17 = .ok (.iload_n 2, 1) := by decide +kernel
theorem d_M_fix_18 : decode b_M_fix 18 = .ok (.iadd, 1) := by decide +kernel
theorem d_M_fix_19 : decode b_M_fix 19 = .ok (.iload 5, 2) := by decide +kernel
theorem d_M_fix_21 : decode b_M_fix 21 = .ok (.iadd, 1) := by decide +kernel
theorem d_M_fix_22 : decode b_M_fix 22 = .ok (.iload 4, 2) := by decide +kernel
theorem d_M_fix_24 : decode b_M_fix 24 = .ok (.iload 5, 2) := by decide +kernel
theorem d_M_fix_26 : decode b_M_fix 26 = .ok (.ishr, 1) := by decide +kernel
theorem d_M_fix_27 : decode b_M_fix 27 = .ok (.iconst 1, 1) := by decide +kernel
theorem d_M_fix_28 : decode b_M_fix 28 = .ok (.iand, 1) := by decide +kernel
theorem d_M_fix_29 : decode b_M_fix 29 = .ok (.iastore, 1) := by decide +kernel
theorem d_M_fix_30 : decode b_M_fix 30 = .ok (.iinc 5 1, 3) := by decide +kernel
theorem d_M_fix_33 : decode b_M_fix 33 = .ok (.goto (-30), 3) := by decide +kernel
theorem d_M_fix_36 : decode b_M_fix 36 = .ok (.return_, 1) := by decide +kernel
theorem d_M_opcodeOf_0 : decode b_M_opcodeOf 0 = .ok (.iload_n 0, 1) := by decide +kernel
theorem d_M_opcodeOf_1 : decode b_M_opcodeOf 1 = .ok (.ifCond .ne 6, 3) := by decide +kernel
theorem d_M_opcodeOf_4 : decode b_M_opcodeOf 4 = .ok (.bipush 55, 2) := by decide +kernel
theorem d_M_opcodeOf_6 : decode b_M_opcodeOf 6 = .ok (.ireturn, 1) := by decide +kernel
theorem d_M_opcodeOf_7 : decode b_M_opcodeOf 7 = .ok (.iload_n 0, 1) := by decide +kernel
theorem d_M_opcodeOf_8 : decode b_M_opcodeOf 8 = .ok (.iconst 1, 1) := by decide +kernel
theorem d_M_opcodeOf_9 : decode b_M_opcodeOf 9 = .ok (.if_icmp .ne 6, 3) := by decide +kernel
theorem d_M_opcodeOf_12 : decode b_M_opcodeOf 12 = .ok (.bipush 23, 2) := by decide +kernel
theorem d_M_opcodeOf_14 : decode b_M_opcodeOf 14 = .ok (.ireturn, 1) := by decide +kernel
theorem d_M_opcodeOf_15 : decode b_M_opcodeOf 15 = .ok (.iload_n 0, 1) := by decide +kernel
theorem d_M_opcodeOf_16 : decode b_M_opcodeOf 16 = .ok (.iconst 2, 1) := by decide +kernel
theorem d_M_opcodeOf_17 : decode b_M_opcodeOf 17 = .ok (.if_icmp .ne 6, 3) := by decide +kernel
theorem d_M_opcodeOf_20 : decode b_M_opcodeOf 20 = .ok (.bipush 111, 2) := by decide +kernel
theorem d_M_opcodeOf_22 : decode b_M_opcodeOf 22 = .ok (.ireturn, 1) := by decide +kernel
theorem d_M_opcodeOf_23 : decode b_M_opcodeOf 23 = .ok (.iload_n 0, 1) := by decide +kernel
theorem d_M_opcodeOf_24 : decode b_M_opcodeOf 24 = .ok (.iconst 3, 1) := by decide +kernel
theorem d_M_opcodeOf_25 : decode b_M_opcodeOf 25 = .ok (.if_icmp .ne 6, 3) := by decide +kernel
theorem d_M_opcodeOf_28 : decode b_M_opcodeOf 28 = .ok (.bipush 103, 2) := by decide +kernel
theorem d_M_opcodeOf_30 : decode b_M_opcodeOf 30 = .ok (.ireturn, 1) := by decide +kernel
theorem d_M_opcodeOf_31 : decode b_M_opcodeOf 31 = .ok (.iload_n 0, 1) := by decide +kernel
theorem d_M_opcodeOf_32 : decode b_M_opcodeOf 32 = .ok (.bipush 10, 2) := by decide +kernel
theorem d_M_opcodeOf_34 : decode b_M_opcodeOf 34 = .ok (.if_icmp .ge 6, 3) := by decide +kernel
theorem d_M_opcodeOf_37 : decode b_M_opcodeOf 37 = .ok (.bipush 99, 2) := by decide +kernel
theorem d_M_opcodeOf_39 : decode b_M_opcodeOf 39 = .ok (.ireturn, 1) := by decide +kernel
theorem d_M_opcodeOf_40 : decode b_M_opcodeOf 40 = .ok (.iload_n 0, 1) := by decide +kernel
theorem d_M_opcodeOf_41 : decode b_M_opcodeOf 41 = .ok (.bipush 15, 2) := by decide +kernel
theorem d_M_opcodeOf_43 : decode b_M_opcodeOf 43 = .ok (.if_icmp .ge 5, 3) := by decide +kernel
theorem d_M_opcodeOf_46 : decode b_M_opcodeOf 46 = .ok (.iconst 3, 1) := by decide +kernel
theorem d_M_opcodeOf_47 : decode b_M_opcodeOf 47 = .ok (.ireturn, 1) := by decide +kernel
theorem d_M_opcodeOf_48 : decode b_M_opcodeOf 48 = .ok (.iload_n 0, 1) := by decide +kernel
theorem d_M_opcodeOf_49 : decode b_M_opcodeOf 49 = .ok (.bipush 18, 2) := by decide +kernel
theorem d_M_opcodeOf_51 : decode b_M_opcodeOf 51 = .ok (.if_icmp .ge 6, 3) := by decide +kernel
theorem d_M_opcodeOf_54 : decode b_M_opcodeOf 54 = .ok (.bipush 35, 2) := by decide +kernel
theorem d_M_opcodeOf_56 : decode b_M_opcodeOf 56 = .ok (.ireturn, 1) := by decide +kernel
theorem d_M_opcodeOf_57 : decode b_M_opcodeOf 57 = .ok (.iload_n 0, 1) := by decide +kernel
theorem d_M_opcodeOf_58 : decode b_M_opcodeOf 58 = .ok (.bipush 27, 2) := by decide +kernel
theorem d_M_opcodeOf_60 : decode b_M_opcodeOf 60 = .ok (.if_icmp .ge 8, 3) := by decide +kernel
theorem d_M_opcodeOf_63 : decode b_M_opcodeOf 63 = .ok (.bipush 19, 2) := by decide +kernel
theorem d_M_opcodeOf_65 : decode b_M_opcodeOf 65 = .ok (.goto 5, 3) := by decide +kernel
theorem d_M_opcodeOf_68 : decode b_M_opcodeOf 68 = .ok (.bipush 51, 2) := by decide +kernel
theorem d_M_opcodeOf_70 : decode b_M_opcodeOf 70 = .ok (.ireturn, 1) := by decide +kernel
theorem d_M_thirdOf_0 : decode b_M_thirdOf 0 = .ok (.iload_n 0, 1) := by decide +kernel
theorem d_M_thirdOf_1 : decode b_M_thirdOf 1 = .ok (.tableswitch 191 5 44 #[175, 181, 183, 185, 188, 191, 175, 177, 181, 183, 191, 175, 177, 191, 177, 179, 181, 185, 188, 175, 183, 183, 191, 191, 175, 177, 179, 181, 183, 183, 185, 188, 191, 175, 177, 179, 181, 183, 185, 188], 175) := by decide +kernel
theorem d_M_thirdOf_176 : decode b_M_thirdOf 176 = .ok (.iconst 1, 1) := by decide +kernel
theorem d_M_thirdOf_177 : decode b_M_thirdOf 177 = .ok (.ireturn, 1) := by decide +kernel
theorem d_M_thirdOf_178 : decode b_M_thirdOf 178 = .ok (.iconst 2, 1) := by decide +kernel
theorem d_M_thirdOf_179 : decode b_M_thirdOf 179 = .ok (.ireturn, 1) := by decide +kernel
theorem d_M_thirdOf_180 : decode b_M_thirdOf 180 = .ok (.iconst 3, 1) := by decide +kernel
theorem d_M_thirdOf_181 : decode b_M_thirdOf 181 = .ok (.ireturn, 1) := by decide +kernel
theorem d_M_thirdOf_182 : decode b_M_thirdOf 182 = .ok (.iconst 4, 1) := by decide +kernel
theorem d_M_thirdOf_183 : decode b_M_thirdOf 183 = .ok (.ireturn, 1) := by decide +kernel
theorem d_M_thirdOf_184 : decode b_M_thirdOf 184 = .ok (.iconst 5, 1) := by decide +kernel
theorem d_M_thirdOf_185 : decode b_M_thirdOf 185 = .ok (.ireturn, 1) := by decide +kernel
theorem d_M_thirdOf_186 : decode b_M_thirdOf 186 = .ok (.bipush 6, 2) := by decide +kernel
theorem d_M_thirdOf_188 : decode b_M_thirdOf 188 = .ok (.ireturn, 1) := by decide +kernel
theorem d_M_thirdOf_189 : decode b_M_thirdOf 189 = .ok (.bipush 7, 2) := by decide +kernel
theorem d_M_thirdOf_191 : decode b_M_thirdOf 191 = .ok (.ireturn, 1) := by decide +kernel
theorem d_M_thirdOf_192 : decode b_M_thirdOf 192 = .ok (.iconst 0, 1) := by decide +kernel
theorem d_M_thirdOf_193 : decode b_M_thirdOf 193 = .ok (.ireturn, 1) := by decide +kernel
theorem d_M_seventhOf_0 : decode b_M_seventhOf 0 = .ok (.iload_n 0, 1) := by decide +kernel
theorem d_M_seventhOf_1 : decode b_M_seventhOf 1 = .ok (.bipush 26, 2) := by decide +kernel
theorem d_M_seventhOf_3 : decode b_M_seventhOf 3 = .ok (.if_icmp .eq 15, 3) := by decide +kernel
theorem d_M_seventhOf_6 : decode b_M_seventhOf 6 = .ok (.iload_n 0, 1) := by decide +kernel
theorem d_M_seventhOf_7 : decode b_M_seventhOf 7 = .ok (.bipush 28, 2) := by decide +kernel
theorem d_M_seventhOf_9 : decode b_M_seventhOf 9 = .ok (.if_icmp .eq 9, 3) := by decide +kernel
theorem d_M_seventhOf_12 : decode b_M_seventhOf 12 = .ok (.iload_n 0, 1) := by decide +kernel
theorem d_M_seventhOf_13 : decode b_M_seventhOf 13 = .ok (.bipush 34, 2) := by decide +kernel
theorem d_M_seventhOf_15 : decode b_M_seventhOf 15 = .ok (.if_icmp .ne 8, 3) := by decide +kernel
theorem d_M_seventhOf_18 : decode b_M_seventhOf 18 = .ok (.bipush 32, 2) := by decide +kernel
theorem d_M_seventhOf_20 : decode b_M_seventhOf 20 = .ok (.goto 14, 3) := by decide +kernel
theorem d_M_seventhOf_23 : decode b_M_seventhOf 23 = .ok (.iload_n 0, 1) := by decide +kernel
theorem d_M_seventhOf_24 : decode b_M_seventhOf 24 = .ok (.bipush 36, 2) := by decide +kernel
theorem d_M_seventhOf_26 : decode b_M_seventhOf 26 = .ok (.if_icmp .le 7, 3) := by decide +kernel
theorem d_M_seventhOf_29 : decode b_M_seventhOf 29 = .ok (.iconst 1, 1) := by decide +kernel
theorem d_M_seventhOf_30 : decode b_M_seventhOf 30 = .ok (.goto 4, 3) := by decide +kernel
theorem d_M_seventhOf_33 : decode b_M_seventhOf 33 = .ok (.iconst 0, 1) := by decide +kernel
theorem d_M_seventhOf_34 : decode b_M_seventhOf 34 = .ok (.ireturn, 1) := by decide +kernel
theorem d_M_isBranch_0 : decode b_M_isBranch 0 = .ok (.iload_n 0, 1) := by decide +kernel
theorem d_M_isBranch_1 : decode b_M_isBranch 1 = .ok (.iconst 3, 1) := by decide +kernel
theorem d_M_isBranch_2 : decode b_M_isBranch 2 = .ok (.if_icmp .le 13, 3) := by decide +kernel
theorem d_M_isBranch_5 : decode b_M_isBranch 5 = .ok (.iload_n 0, 1) := by decide +kernel
theorem d_M_isBranch_6 : decode b_M_isBranch 6 = .ok (.bipush 10, 2) := by decide +kernel
theorem d_M_isBranch_8 : decode b_M_isBranch 8 = .ok (.if_icmp .ge 7, 3) := by decide +kernel
theorem d_M_isBranch_11 : decode b_M_isBranch 11 = .ok (.iconst 1, 1) := by decide +kernel
theorem d_M_isBranch_12 : decode b_M_isBranch 12 = .ok (.goto 4, 3) := by decide +kernel
theorem d_M_isBranch_15 : decode b_M_isBranch 15 = .ok (.iconst 0, 1) := by decide +kernel
theorem d_M_isBranch_16 : decode b_M_isBranch 16 = .ok (.ireturn, 1) := by decide +kernel
theorem d_M_isStore_0 : decode b_M_isStore 0 = .ok (.iload_n 0, 1) := by decide +kernel
theorem d_M_isStore_1 : decode b_M_isStore 1 = .ok (.bipush 14, 2) := by decide +kernel
theorem d_M_isStore_3 : decode b_M_isStore 3 = .ok (.if_icmp .le 13, 3) := by decide +kernel
theorem d_M_isStore_6 : decode b_M_isStore 6 = .ok (.iload_n 0, 1) := by decide +kernel
theorem d_M_isStore_7 : decode b_M_isStore 7 = .ok (.bipush 18, 2) := by decide +kernel
theorem d_M_isStore_9 : decode b_M_isStore 9 = .ok (.if_icmp .ge 7, 3) := by decide +kernel
theorem d_M_isStore_12 : decode b_M_isStore 12 = .ok (.iconst 1, 1) := by decide +kernel
theorem d_M_isStore_13 : decode b_M_isStore 13 = .ok (.goto 4, 3) := by decide +kernel
theorem d_M_isStore_16 : decode b_M_isStore 16 = .ok (.iconst 0, 1) := by decide +kernel
theorem d_M_isStore_17 : decode b_M_isStore 17 = .ok (.ireturn, 1) := by decide +kernel
theorem d_M_isShift_0 : decode b_M_isShift 0 = .ok (.iload_n 0, 1) := by decide +kernel
theorem d_M_isShift_1 : decode b_M_isShift 1 = .ok (.bipush 23, 2) := by decide +kernel
theorem d_M_isShift_3 : decode b_M_isShift 3 = .ok (.if_icmp .le 13, 3) := by decide +kernel
theorem d_M_isShift_6 : decode b_M_isShift 6 = .ok (.iload_n 0, 1) := by decide +kernel
theorem d_M_isShift_7 : decode b_M_isShift 7 = .ok (.bipush 27, 2) := by decide +kernel
theorem d_M_isShift_9 : decode b_M_isShift 9 = .ok (.if_icmp .ge 7, 3) := by decide +kernel
theorem d_M_isShift_12 : decode b_M_isShift 12 = .ok (.iconst 1, 1) := by decide +kernel
theorem d_M_isShift_13 : decode b_M_isShift 13 = .ok (.goto 4, 3) := by decide +kernel
theorem d_M_isShift_16 : decode b_M_isShift 16 = .ok (.iconst 0, 1) := by decide +kernel
theorem d_M_isShift_17 : decode b_M_isShift 17 = .ok (.ireturn, 1) := by decide +kernel
theorem d_M_layLong_0 : decode b_M_layLong 0 = .ok (.iload_n 1, 1) := by decide +kernel
theorem d_M_layLong_1 : decode b_M_layLong 1 = .ok (.bipush 48, 2) := by decide +kernel
theorem d_M_layLong_3 : decode b_M_layLong 3 = .ok (.if_icmp .lt 4, 3) := by decide +kernel
theorem d_M_layLong_6 : decode b_M_layLong 6 = .ok (.return_, 1) := by decide +kernel
theorem d_M_layLong_7 : decode b_M_layLong 7 = .ok (.iload_n 1, 1) := by decide +kernel
theorem d_M_layLong_8 : decode b_M_layLong 8 = .ok (.bipush 44, 2) := by decide +kernel
theorem d_M_layLong_10 : decode b_M_layLong 10 = .ok (.if_icmp .le 36, 3) := by decide +kernel
theorem d_M_layLong_13 : decode b_M_layLong 13 = .ok (.aload_n 0, 1) := by decide +kernel
theorem d_M_layLong_14 : decode b_M_layLong 14 = .ok (.iload_n 1, 1) := by decide +kernel
theorem d_M_layLong_15 : decode b_M_layLong 15 = .ok (.iconst 0, 1) := by decide +kernel
theorem d_M_layLong_16 : decode b_M_layLong 16 = .ok (.bipush 32, 2) := by decide +kernel
theorem d_M_layLong_18 : decode b_M_layLong 18 = .ok (.iload_n 1, 1) := by decide +kernel
theorem d_M_layLong_19 : decode b_M_layLong 19 = .ok (.bipush 45, 2) := by decide +kernel
theorem d_M_layLong_21 : decode b_M_layLong 21 = .ok (.if_icmp .ne 8, 3) := by decide +kernel
theorem d_M_layLong_24 : decode b_M_layLong 24 = .ok (.ldc 56, 2) := by decide +kernel
theorem d_M_layLong_26 : decode b_M_layLong 26 = .ok (.goto 16, 3) := by decide +kernel
theorem d_M_layLong_29 : decode b_M_layLong 29 = .ok (.iload_n 1, 1) := by decide +kernel
theorem d_M_layLong_30 : decode b_M_layLong 30 = .ok (.bipush 46, 2) := by decide +kernel
theorem d_M_layLong_32 : decode b_M_layLong 32 = .ok (.if_icmp .ne 8, 3) := by decide +kernel
theorem d_M_layLong_35 : decode b_M_layLong 35 = .ok (.bipush 115, 2) := by decide +kernel
theorem d_M_layLong_37 : decode b_M_layLong 37 = .ok (.goto 5, 3) := by decide +kernel
theorem d_M_layLong_40 : decode b_M_layLong 40 = .ok (.ldc 57, 2) := by decide +kernel
theorem d_M_layLong_42 : decode b_M_layLong 42 = .ok (.invokevirtual 58, 3) := by decide +kernel
theorem d_M_layLong_45 : decode b_M_layLong 45 = .ok (.return_, 1) := by decide +kernel
theorem d_M_layLong_46 : decode b_M_layLong 46 = .ok (.aload_n 0, 1) := by decide +kernel
theorem d_M_layLong_47 : decode b_M_layLong 47 = .ok (.iload_n 1, 1) := by decide +kernel
theorem d_M_layLong_48 : decode b_M_layLong 48 = .ok (.iconst 0, 1) := by decide +kernel
theorem d_M_layLong_49 : decode b_M_layLong 49 = .ok (.bipush 7, 2) := by decide +kernel
theorem d_M_layLong_51 : decode b_M_layLong 51 = .ok (.iload_n 1, 1) := by decide +kernel
theorem d_M_layLong_52 : decode b_M_layLong 52 = .ok (.invokestatic 62, 3) := by decide +kernel
theorem d_M_layLong_55 : decode b_M_layLong 55 = .ok (.invokevirtual 58, 3) := by decide +kernel
theorem d_M_layLong_58 : decode b_M_layLong 58 = .ok (.iload_n 1, 1) := by decide +kernel
theorem d_M_layLong_59 : decode b_M_layLong 59 = .ok (.iconst 3, 1) := by decide +kernel
theorem d_M_layLong_60 : decode b_M_layLong 60 = .ok (.if_icmp .ge 94, 3) := by decide +kernel
theorem d_M_layLong_63 : decode b_M_layLong 63 = .ok (.aload_n 0, 1) := by decide +kernel
theorem d_M_layLong_64 : decode b_M_layLong 64 = .ok (.iload_n 1, 1) := by decide +kernel
theorem d_M_layLong_65 : decode b_M_layLong 65 = .ok (.bipush 11, 2) := by decide +kernel
theorem d_M_layLong_67 : decode b_M_layLong 67 = .ok (.bipush 7, 2) := by decide +kernel
theorem d_M_layLong_69 : decode b_M_layLong 69 = .ok (.bipush 100, 2) := by decide +kernel
theorem d_M_layLong_71 : decode b_M_layLong 71 = .ok (.iconst 4, 1) := by decide +kernel
theorem d_M_layLong_72 : decode b_M_layLong 72 = .ok (.invokevirtual 66, 3) := by decide +kernel
theorem d_M_layLong_75 : decode b_M_layLong 75 = .ok (.iload_n 1, 1) := by decide +kernel
theorem d_M_layLong_76 : decode b_M_layLong 76 = .ok (.iconst 2, 1) := by decide +kernel
theorem d_M_layLong_77 : decode b_M_layLong 77 = .ok (.if_icmp .ge 20, 3) := by decide +kernel
theorem d_M_layLong_80 : decode b_M_layLong 80 = .ok (.aload_n 0, 1) := by decide +kernel
theorem d_M_layLong_81 : decode b_M_layLong 81 = .ok (.iload_n 1, 1) := by decide +kernel
theorem d_M_layLong_82 : decode b_M_layLong 82 = .ok (.bipush 31, 2) := by decide +kernel
theorem d_M_layLong_84 : decode b_M_layLong 84 = .ok (.bipush 12, 2) := by decide +kernel
theorem d_M_layLong_86 : decode b_M_layLong 86 = .ok (.sipush 400, 3) := by decide +kernel
theorem d_M_layLong_89 : decode b_M_layLong 89 = .ok (.bipush 19, 2) := by decide +kernel
theorem d_M_layLong_91 : decode b_M_layLong 91 = .ok (.invokevirtual 66, 3) := by decide +kernel
theorem d_M_layLong_94 : decode b_M_layLong 94 = .ok (.goto 59, 3) := by decide +kernel
theorem d_M_layLong_97 : decode b_M_layLong 97 = .ok (.aload_n 0, 1) := by decide +kernel
theorem d_M_layLong_98 : decode b_M_layLong 98 = .ok (.iload_n 1, 1) := by decide +kernel
theorem d_M_layLong_99 : decode b_M_layLong 99 = .ok (.bipush 31, 2) := by decide +kernel
theorem d_M_layLong_101 : decode b_M_layLong 101 = .ok (.bipush 31, 2) := by decide +kernel
theorem d_M_layLong_103 : decode b_M_layLong 103 = .ok (.sipush 400, 3) := by decide +kernel
theorem d_M_layLong_106 : decode b_M_layLong 106 = .ok (.bipush 20, 2) := by decide +kernel
theorem d_M_layLong_108 : decode b_M_layLong 108 = .ok (.invokevirtual 66, 3) := by decide +kernel
theorem d_M_layLong_111 : decode b_M_layLong 111 = .ok (.aload_n 0, 1) := by decide +kernel
theorem d_M_layLong_112 : decode b_M_layLong 112 = .ok (.iload_n 1, 1) := by decide +kernel
theorem d_M_layLong_113 : decode b_M_layLong 113 = .ok (.bipush 30, 2) := by decide +kernel
theorem d_M_layLong_115 : decode b_M_layLong 115 = .ok (.bipush 21, 2) := by decide +kernel
theorem d_M_layLong_117 : decode b_M_layLong 117 = .ok (.sipush 400, 3) := by decide +kernel
theorem d_M_layLong_120 : decode b_M_layLong 120 = .ok (.bipush 10, 2) := by decide +kernel
theorem d_M_layLong_122 : decode b_M_layLong 122 = .ok (.invokevirtual 66, 3) := by decide +kernel
theorem d_M_layLong_125 : decode b_M_layLong 125 = .ok (.aload_n 0, 1) := by decide +kernel
theorem d_M_layLong_126 : decode b_M_layLong 126 = .ok (.iload_n 1, 1) := by decide +kernel
theorem d_M_layLong_127 : decode b_M_layLong 127 = .ok (.bipush 20, 2) := by decide +kernel
theorem d_M_layLong_129 : decode b_M_layLong 129 = .ok (.bipush 20, 2) := by decide +kernel
theorem d_M_layLong_131 : decode b_M_layLong 131 = .ok (.sipush 400, 3) := by decide +kernel
theorem d_M_layLong_134 : decode b_M_layLong 134 = .ok (.bipush 11, 2) := by decide +kernel
theorem d_M_layLong_136 : decode b_M_layLong 136 = .ok (.invokevirtual 66, 3) := by decide +kernel
theorem d_M_layLong_139 : decode b_M_layLong 139 = .ok (.aload_n 0, 1) := by decide +kernel
theorem d_M_layLong_140 : decode b_M_layLong 140 = .ok (.iload_n 1, 1) := by decide +kernel
theorem d_M_layLong_141 : decode b_M_layLong 141 = .ok (.bipush 19, 2) := by decide +kernel
theorem d_M_layLong_143 : decode b_M_layLong 143 = .ok (.bipush 12, 2) := by decide +kernel
theorem d_M_layLong_145 : decode b_M_layLong 145 = .ok (.sipush 400, 3) := by decide +kernel
theorem d_M_layLong_148 : decode b_M_layLong 148 = .ok (.bipush 19, 2) := by decide +kernel
theorem d_M_layLong_150 : decode b_M_layLong 150 = .ok (.invokevirtual 66, 3) := by decide +kernel
theorem d_M_layLong_153 : decode b_M_layLong 153 = .ok (.return_, 1) := by decide +kernel
theorem d_M_layLong_154 : decode b_M_layLong 154 = .ok (.aload_n 0, 1) := by decide +kernel
theorem d_M_layLong_155 : decode b_M_layLong 155 = .ok (.iload_n 1, 1) := by decide +kernel
theorem d_M_layLong_156 : decode b_M_layLong 156 = .ok (.bipush 12, 2) := by decide +kernel
theorem d_M_layLong_158 : decode b_M_layLong 158 = .ok (.iconst 3, 1) := by decide +kernel
theorem d_M_layLong_159 : decode b_M_layLong 159 = .ok (.iload_n 1, 1) := by decide +kernel
theorem d_M_layLong_160 : decode b_M_layLong 160 = .ok (.invokestatic 70, 3) := by decide +kernel
theorem d_M_layLong_163 : decode b_M_layLong 163 = .ok (.invokevirtual 58, 3) := by decide +kernel
theorem d_M_layLong_166 : decode b_M_layLong 166 = .ok (.aload_n 0, 1) := by decide +kernel
theorem d_M_layLong_167 : decode b_M_layLong 167 = .ok (.iload_n 1, 1) := by decide +kernel
theorem d_M_layLong_168 : decode b_M_layLong 168 = .ok (.bipush 19, 2) := by decide +kernel
theorem d_M_layLong_170 : decode b_M_layLong 170 = .ok (.bipush 15, 2) := by decide +kernel
theorem d_M_layLong_172 : decode b_M_layLong 172 = .ok (.sipush 200, 3) := by decide +kernel
theorem d_M_layLong_175 : decode b_M_layLong 175 = .ok (.iconst 4, 1) := by decide +kernel
theorem d_M_layLong_176 : decode b_M_layLong 176 = .ok (.invokevirtual 66, 3) := by decide +kernel
theorem d_M_layLong_179 : decode b_M_layLong 179 = .ok (.iload_n 1, 1) := by decide +kernel
theorem d_M_layLong_180 : decode b_M_layLong 180 = .ok (.invokestatic 73, 3) := by decide +kernel
theorem d_M_layLong_183 : decode b_M_layLong 183 = .ok (.ifCond .eq 74, 3) := by decide +kernel
theorem d_M_layLong_186 : decode b_M_layLong 186 = .ok (.aload_n 0, 1) := by decide +kernel
theorem d_M_layLong_187 : decode b_M_layLong 187 = .ok (.iload_n 1, 1) := by decide +kernel
theorem d_M_layLong_188 : decode b_M_layLong 188 = .ok (.bipush 24, 2) := by decide +kernel
theorem d_M_layLong_190 : decode b_M_layLong 190 = .ok (.bipush 20, 2) := by decide +kernel
theorem d_M_layLong_192 : decode b_M_layLong 192 = .ok (.sipush 300, 3) := by decide +kernel
theorem d_M_layLong_195 : decode b_M_layLong 195 = .ok (.iconst 4, 1) := by decide +kernel
theorem d_M_layLong_196 : decode b_M_layLong 196 = .ok (.invokevirtual 66, 3) := by decide +kernel
theorem d_M_layLong_199 : decode b_M_layLong 199 = .ok (.aload_n 0, 1) := by decide +kernel
theorem d_M_layLong_200 : decode b_M_layLong 200 = .ok (.iload_n 1, 1) := by decide +kernel
theorem d_M_layLong_201 : decode b_M_layLong 201 = .ok (.bipush 31, 2) := by decide +kernel
theorem d_M_layLong_203 : decode b_M_layLong 203 = .ok (.bipush 31, 2) := by decide +kernel
theorem d_M_layLong_205 : decode b_M_layLong 205 = .ok (.sipush 400, 3) := by decide +kernel
theorem d_M_layLong_208 : decode b_M_layLong 208 = .ok (.bipush 12, 2) := by decide +kernel
theorem d_M_layLong_210 : decode b_M_layLong 210 = .ok (.invokevirtual 66, 3) := by decide +kernel
theorem d_M_layLong_213 : decode b_M_layLong 213 = .ok (.aload_n 0, 1) := by decide +kernel
theorem d_M_layLong_214 : decode b_M_layLong 214 = .ok (.iload_n 1, 1) := by decide +kernel
theorem d_M_layLong_215 : decode b_M_layLong 215 = .ok (.bipush 30, 2) := by decide +kernel
theorem d_M_layLong_217 : decode b_M_layLong 217 = .ok (.bipush 25, 2) := by decide +kernel
theorem d_M_layLong_219 : decode b_M_layLong 219 = .ok (.sipush 400, 3) := by decide +kernel
theorem d_M_layLong_222 : decode b_M_layLong 222 = .ok (.bipush 10, 2) := by decide +kernel
theorem d_M_layLong_224 : decode b_M_layLong 224 = .ok (.invokevirtual 66, 3) := by decide +kernel
theorem d_M_layLong_227 : decode b_M_layLong 227 = .ok (.aload_n 0, 1) := by decide +kernel
theorem d_M_layLong_228 : decode b_M_layLong 228 = .ok (.iload_n 1, 1) := by decide +kernel
theorem d_M_layLong_229 : decode b_M_layLong 229 = .ok (.bipush 11, 2) := by decide +kernel
theorem d_M_layLong_231 : decode b_M_layLong 231 = .ok (.bipush 8, 2) := by decide +kernel
theorem d_M_layLong_233 : decode b_M_layLong 233 = .ok (.sipush 400, 3) := by decide +kernel
theorem d_M_layLong_236 : decode b_M_layLong 236 = .ok (.iconst 4, 1) := by decide +kernel
theorem d_M_layLong_237 : decode b_M_layLong 237 = .ok (.invokevirtual 66, 3) := by decide +kernel
theorem d_M_layLong_240 : decode b_M_layLong 240 = .ok (.aload_n 0, 1) := by decide +kernel
theorem d_M_layLong_241 : decode b_M_layLong 241 = .ok (.iload_n 1, 1) := by decide +kernel
theorem d_M_layLong_242 : decode b_M_layLong 242 = .ok (.bipush 7, 2) := by decide +kernel
theorem d_M_layLong_244 : decode b_M_layLong 244 = .ok (.bipush 7, 2) := by decide +kernel
theorem d_M_layLong_246 : decode b_M_layLong 246 = .ok (.sipush 400, 3) := by decide +kernel
theorem d_M_layLong_249 : decode b_M_layLong 249 = .ok (.bipush 11, 2) := by decide +kernel
theorem d_M_layLong_251 : decode b_M_layLong 251 = .ok (.invokevirtual 66, 3) := by decide +kernel
theorem d_M_layLong_254 : decode b_M_layLong 254 = .ok (.goto 150, 3) := by decide +kernel
theorem d_M_layLong_257 : decode b_M_layLong 257 = .ok (.iload_n 1, 1) := by decide +kernel
theorem d_M_layLong_258 : decode b_M_layLong 258 = .ok (.invokestatic 77, 3) := by decide +kernel
theorem d_M_layLong_261 : decode b_M_layLong 261 = .ok (.ifCond .eq 46, 3) := by decide +kernel
theorem d_M_layLong_264 : decode b_M_layLong 264 = .ok (.aload_n 0, 1) := by decide +kernel
theorem d_M_layLong_265 : decode b_M_layLong 265 = .ok (.iload_n 1, 1) := by decide +kernel
theorem d_M_layLong_266 : decode b_M_layLong 266 = .ok (.bipush 24, 2) := by decide +kernel
theorem d_M_layLong_268 : decode b_M_layLong 268 = .ok (.bipush 20, 2) := by decide +kernel
theorem d_M_layLong_270 : decode b_M_layLong 270 = .ok (.sipush 300, 3) := by decide +kernel
theorem d_M_layLong_273 : decode b_M_layLong 273 = .ok (.iconst 4, 1) := by decide +kernel
theorem d_M_layLong_274 : decode b_M_layLong 274 = .ok (.invokevirtual 66, 3) := by decide +kernel
theorem d_M_layLong_277 : decode b_M_layLong 277 = .ok (.aload_n 0, 1) := by decide +kernel
theorem d_M_layLong_278 : decode b_M_layLong 278 = .ok (.iload_n 1, 1) := by decide +kernel
theorem d_M_layLong_279 : decode b_M_layLong 279 = .ok (.bipush 31, 2) := by decide +kernel
theorem d_M_layLong_281 : decode b_M_layLong 281 = .ok (.bipush 25, 2) := by decide +kernel
theorem d_M_layLong_283 : decode b_M_layLong 283 = .ok (.sipush 400, 3) := by decide +kernel
theorem d_M_layLong_286 : decode b_M_layLong 286 = .ok (.bipush 11, 2) := by decide +kernel
theorem d_M_layLong_288 : decode b_M_layLong 288 = .ok (.invokevirtual 66, 3) := by decide +kernel
theorem d_M_layLong_291 : decode b_M_layLong 291 = .ok (.aload_n 0, 1) := by decide +kernel
theorem d_M_layLong_292 : decode b_M_layLong 292 = .ok (.iload_n 1, 1) := by decide +kernel
theorem d_M_layLong_293 : decode b_M_layLong 293 = .ok (.bipush 11, 2) := by decide +kernel
theorem d_M_layLong_295 : decode b_M_layLong 295 = .ok (.bipush 7, 2) := by decide +kernel
theorem d_M_layLong_297 : decode b_M_layLong 297 = .ok (.sipush 400, 3) := by decide +kernel
theorem d_M_layLong_300 : decode b_M_layLong 300 = .ok (.iconst 4, 1) := by decide +kernel
theorem d_M_layLong_301 : decode b_M_layLong 301 = .ok (.invokevirtual 66, 3) := by decide +kernel
theorem d_M_layLong_304 : decode b_M_layLong 304 = .ok (.goto 100, 3) := by decide +kernel
theorem d_M_layLong_307 : decode b_M_layLong 307 = .ok (.aload_n 0, 1) := by decide +kernel
theorem d_M_layLong_308 : decode b_M_layLong 308 = .ok (.iload_n 1, 1) := by decide +kernel
theorem d_M_layLong_309 : decode b_M_layLong 309 = .ok (.bipush 11, 2) := by decide +kernel
theorem d_M_layLong_311 : decode b_M_layLong 311 = .ok (.bipush 7, 2) := by decide +kernel
theorem d_M_layLong_313 : decode b_M_layLong 313 = .ok (.bipush 100, 2) := by decide +kernel
theorem d_M_layLong_315 : decode b_M_layLong 315 = .ok (.iconst 4, 1) := by decide +kernel
theorem d_M_layLong_316 : decode b_M_layLong 316 = .ok (.invokevirtual 66, 3) := by decide +kernel
theorem d_M_layLong_319 : decode b_M_layLong 319 = .ok (.iload_n 1, 1) := by decide +kernel
theorem d_M_layLong_320 : decode b_M_layLong 320 = .ok (.bipush 26, 2) := by decide +kernel
theorem d_M_layLong_322 : decode b_M_layLong 322 = .ok (.if_icmp .le 32, 3) := by decide +kernel
theorem d_M_layLong_325 : decode b_M_layLong 325 = .ok (.aload_n 0, 1) := by decide +kernel
theorem d_M_layLong_326 : decode b_M_layLong 326 = .ok (.iload_n 1, 1) := by decide +kernel
theorem d_M_layLong_327 : decode b_M_layLong 327 = .ok (.bipush 24, 2) := by decide +kernel
theorem d_M_layLong_329 : decode b_M_layLong 329 = .ok (.bipush 20, 2) := by decide +kernel
theorem d_M_layLong_331 : decode b_M_layLong 331 = .ok (.sipush 300, 3) := by decide +kernel
theorem d_M_layLong_334 : decode b_M_layLong 334 = .ok (.iconst 4, 1) := by decide +kernel
theorem d_M_layLong_335 : decode b_M_layLong 335 = .ok (.invokevirtual 66, 3) := by decide +kernel
theorem d_M_layLong_338 : decode b_M_layLong 338 = .ok (.aload_n 0, 1) := by decide +kernel
theorem d_M_layLong_339 : decode b_M_layLong 339 = .ok (.iload_n 1, 1) := by decide +kernel
theorem d_M_layLong_340 : decode b_M_layLong 340 = .ok (.bipush 25, 2) := by decide +kernel
theorem d_M_layLong_342 : decode b_M_layLong 342 = .ok (.bipush 7, 2) := by decide +kernel
theorem d_M_layLong_344 : decode b_M_layLong 344 = .ok (.iload_n 1, 1) := by decide +kernel
theorem d_M_layLong_345 : decode b_M_layLong 345 = .ok (.invokestatic 80, 3) := by decide +kernel
theorem d_M_layLong_348 : decode b_M_layLong 348 = .ok (.invokevirtual 58, 3) := by decide +kernel
theorem d_M_layLong_351 : decode b_M_layLong 351 = .ok (.goto 53, 3) := by decide +kernel
theorem d_M_layLong_354 : decode b_M_layLong 354 = .ok (.iload_n 1, 1) := by decide +kernel
theorem d_M_layLong_355 : decode b_M_layLong 355 = .ok (.invokestatic 83, 3) := by decide +kernel
theorem d_M_layLong_358 : decode b_M_layLong 358 = .ok (.ifCond .eq 32, 3) := by decide +kernel
theorem d_M_layLong_361 : decode b_M_layLong 361 = .ok (.aload_n 0, 1) := by decide +kernel
theorem d_M_layLong_362 : decode b_M_layLong 362 = .ok (.iload_n 1, 1) := by decide +kernel
theorem d_M_layLong_363 : decode b_M_layLong 363 = .ok (.bipush 24, 2) := by decide +kernel
theorem d_M_layLong_365 : decode b_M_layLong 365 = .ok (.bipush 20, 2) := by decide +kernel
theorem d_M_layLong_367 : decode b_M_layLong 367 = .ok (.sipush 400, 3) := by decide +kernel
theorem d_M_layLong_370 : decode b_M_layLong 370 = .ok (.iconst 4, 1) := by decide +kernel
theorem d_M_layLong_371 : decode b_M_layLong 371 = .ok (.invokevirtual 66, 3) := by decide +kernel
theorem d_M_layLong_374 : decode b_M_layLong 374 = .ok (.aload_n 0, 1) := by decide +kernel
theorem d_M_layLong_375 : decode b_M_layLong 375 = .ok (.iload_n 1, 1) := by decide +kernel
theorem d_M_layLong_376 : decode b_M_layLong 376 = .ok (.bipush 25, 2) := by decide +kernel
theorem d_M_layLong_378 : decode b_M_layLong 378 = .ok (.bipush 7, 2) := by decide +kernel
theorem d_M_layLong_380 : decode b_M_layLong 380 = .ok (.iload_n 1, 1) := by decide +kernel
theorem d_M_layLong_381 : decode b_M_layLong 381 = .ok (.invokestatic 80, 3) := by decide +kernel
theorem d_M_layLong_384 : decode b_M_layLong 384 = .ok (.invokevirtual 58, 3) := by decide +kernel
theorem d_M_layLong_387 : decode b_M_layLong 387 = .ok (.goto 17, 3) := by decide +kernel
theorem d_M_layLong_390 : decode b_M_layLong 390 = .ok (.aload_n 0, 1) := by decide +kernel
theorem d_M_layLong_391 : decode b_M_layLong 391 = .ok (.iload_n 1, 1) := by decide +kernel
theorem d_M_layLong_392 : decode b_M_layLong 392 = .ok (.bipush 31, 2) := by decide +kernel
theorem d_M_layLong_394 : decode b_M_layLong 394 = .ok (.bipush 20, 2) := by decide +kernel
theorem d_M_layLong_396 : decode b_M_layLong 396 = .ok (.sipush 400, 3) := by decide +kernel
theorem d_M_layLong_399 : decode b_M_layLong 399 = .ok (.bipush 11, 2) := by decide +kernel
theorem d_M_layLong_401 : decode b_M_layLong 401 = .ok (.invokevirtual 66, 3) := by decide +kernel
theorem d_M_layLong_404 : decode b_M_layLong 404 = .ok (.return_, 1) := by decide +kernel
theorem d_M_one_0 : decode b_M_one 0 = .ok (.aload_n 0, 1) := by decide +kernel
theorem d_M_one_1 : decode b_M_one 1 = .ok (.getfield 7, 3) := by decide +kernel
theorem d_M_one_4 : decode b_M_one 4 = .ok (.bipush 32, 2) := by decide +kernel
theorem d_M_one_6 : decode b_M_one 6 = .ok (.iload_n 1, 1) := by decide +kernel
theorem d_M_one_7 : decode b_M_one 7 = .ok (.imul, 1) := by decide +kernel
theorem d_M_one_8 : decode b_M_one 8 = .ok (.iload_n 2, 1) := by decide +kernel
theorem d_M_one_9 : decode b_M_one 9 = .ok (.iadd, 1) := by decide +kernel
theorem d_M_one_10 : decode b_M_one 10 = .ok (.sipush 400, 3) := by decide +kernel
theorem d_M_one_13 : decode b_M_one 13 = .ok (.iload_n 3, 1) := by decide +kernel
theorem d_M_one_14 : decode b_M_one 14 = .ok (.iadd, 1) := by decide +kernel
theorem d_M_one_15 : decode b_M_one 15 = .ok (.iastore, 1) := by decide +kernel
theorem d_M_one_16 : decode b_M_one 16 = .ok (.return_, 1) := by decide +kernel
theorem d_M_ends_0 : decode b_M_ends 0 = .ok (.aload_n 0, 1) := by decide +kernel
theorem d_M_ends_1 : decode b_M_ends 1 = .ok (.iload_n 1, 1) := by decide +kernel
theorem d_M_ends_2 : decode b_M_ends 2 = .ok (.bipush 13, 2) := by decide +kernel
theorem d_M_ends_4 : decode b_M_ends 4 = .ok (.iconst 3, 1) := by decide +kernel
theorem d_M_ends_5 : decode b_M_ends 5 = .ok (.iload_n 2, 1) := by decide +kernel
theorem d_M_ends_6 : decode b_M_ends 6 = .ok (.invokevirtual 58, 3) := by decide +kernel
theorem d_M_ends_9 : decode b_M_ends 9 = .ok (.aload_n 0, 1) := by decide +kernel
theorem d_M_ends_10 : decode b_M_ends 10 = .ok (.iload_n 1, 1) := by decide +kernel
theorem d_M_ends_11 : decode b_M_ends 11 = .ok (.iconst 0, 1) := by decide +kernel
theorem d_M_ends_12 : decode b_M_ends 12 = .ok (.iconst 2, 1) := by decide +kernel
theorem d_M_ends_13 : decode b_M_ends 13 = .ok (.iload_n 3, 1) := by decide +kernel
theorem d_M_ends_14 : decode b_M_ends 14 = .ok (.invokevirtual 58, 3) := by decide +kernel
theorem d_M_ends_17 : decode b_M_ends 17 = .ok (.return_, 1) := by decide +kernel
theorem d_M_layShort_0 : decode b_M_layShort 0 = .ok (.aload_n 0, 1) := by decide +kernel
theorem d_M_layShort_1 : decode b_M_layShort 1 = .ok (.bipush 48, 2) := by decide +kernel
theorem d_M_layShort_3 : decode b_M_layShort 3 = .ok (.iconst 0, 1) := by decide +kernel
theorem d_M_layShort_4 : decode b_M_layShort 4 = .ok (.iconst 0, 1) := by decide +kernel
theorem d_M_layShort_5 : decode b_M_layShort 5 = .ok (.invokevirtual 86, 3) := by decide +kernel
theorem d_M_layShort_8 : decode b_M_layShort 8 = .ok (.aload_n 0, 1) := by decide +kernel
theorem d_M_layShort_9 : decode b_M_layShort 9 = .ok (.bipush 48, 2) := by decide +kernel
theorem d_M_layShort_11 : decode b_M_layShort 11 = .ok (.bipush 12, 2) := by decide +kernel
theorem d_M_layShort_13 : decode b_M_layShort 13 = .ok (.bipush 11, 2) := by decide +kernel
theorem d_M_layShort_15 : decode b_M_layShort 15 = .ok (.sipush 400, 3) := by decide +kernel
theorem d_M_layShort_18 : decode b_M_layShort 18 = .ok (.iconst 5, 1) := by decide +kernel
theorem d_M_layShort_19 : decode b_M_layShort 19 = .ok (.invokevirtual 66, 3) := by decide +kernel
theorem d_M_layShort_22 : decode b_M_layShort 22 = .ok (.aload_n 0, 1) := by decide +kernel
theorem d_M_layShort_23 : decode b_M_layShort 23 = .ok (.bipush 48, 2) := by decide +kernel
theorem d_M_layShort_25 : decode b_M_layShort 25 = .ok (.bipush 10, 2) := by decide +kernel
theorem d_M_layShort_27 : decode b_M_layShort 27 = .ok (.bipush 7, 2) := by decide +kernel
theorem d_M_layShort_29 : decode b_M_layShort 29 = .ok (.sipush 400, 3) := by decide +kernel
theorem d_M_layShort_32 : decode b_M_layShort 32 = .ok (.bipush 9, 2) := by decide +kernel
theorem d_M_layShort_34 : decode b_M_layShort 34 = .ok (.invokevirtual 66, 3) := by decide +kernel
theorem d_M_layShort_37 : decode b_M_layShort 37 = .ok (.aload_n 0, 1) := by decide +kernel
theorem d_M_layShort_38 : decode b_M_layShort 38 = .ok (.bipush 48, 2) := by decide +kernel
theorem d_M_layShort_40 : decode b_M_layShort 40 = .ok (.bipush 6, 2) := by decide +kernel
theorem d_M_layShort_42 : decode b_M_layShort 42 = .ok (.iconst 2, 1) := by decide +kernel
theorem d_M_layShort_43 : decode b_M_layShort 43 = .ok (.invokevirtual 90, 3) := by decide +kernel
theorem d_M_layShort_46 : decode b_M_layShort 46 = .ok (.aload_n 0, 1) := by decide +kernel
theorem d_M_layShort_47 : decode b_M_layShort 47 = .ok (.bipush 48, 2) := by decide +kernel
theorem d_M_layShort_49 : decode b_M_layShort 49 = .ok (.iconst 5, 1) := by decide +kernel
theorem d_M_layShort_50 : decode b_M_layShort 50 = .ok (.iconst 3, 1) := by decide +kernel
theorem d_M_layShort_51 : decode b_M_layShort 51 = .ok (.invokevirtual 90, 3) := by decide +kernel
theorem d_M_layShort_54 : decode b_M_layShort 54 = .ok (.aload_n 0, 1) := by decide +kernel
theorem d_M_layShort_55 : decode b_M_layShort 55 = .ok (.bipush 48, 2) := by decide +kernel
theorem d_M_layShort_57 : decode b_M_layShort 57 = .ok (.iconst 4, 1) := by decide +kernel
theorem d_M_layShort_58 : decode b_M_layShort 58 = .ok (.iconst 2, 1) := by decide +kernel
theorem d_M_layShort_59 : decode b_M_layShort 59 = .ok (.sipush 500, 3) := by decide +kernel
theorem d_M_layShort_62 : decode b_M_layShort 62 = .ok (.iconst 2, 1) := by decide +kernel
theorem d_M_layShort_63 : decode b_M_layShort 63 = .ok (.invokevirtual 66, 3) := by decide +kernel
theorem d_M_layShort_66 : decode b_M_layShort 66 = .ok (.bipush 49, 2) := by decide +kernel
theorem d_M_layShort_68 : decode b_M_layShort 68 = .ok (.istore_n 1, 1) := by decide +kernel
theorem d_M_layShort_69 : decode b_M_layShort 69 = .ok (.iload_n 1, 1) := by decide +kernel
theorem d_M_layShort_70 : decode b_M_layShort 70 = .ok (.bipush 51, 2) := by decide +kernel
theorem d_M_layShort_72 : decode b_M_layShort 72 = .ok (.if_icmp .ge 92, 3) := by decide +kernel
theorem d_M_layShort_75 : decode b_M_layShort 75 = .ok (.aload_n 0, 1) := by decide +kernel
theorem d_M_layShort_76 : decode b_M_layShort 76 = .ok (.iload_n 1, 1) := by decide +kernel
theorem d_M_layShort_77 : decode b_M_layShort 77 = .ok (.iload_n 1, 1) := by decide +kernel
theorem d_M_layShort_78 : decode b_M_layShort 78 = .ok (.bipush 49, 2) := by decide +kernel
theorem d_M_layShort_80 : decode b_M_layShort 80 = .ok (.if_icmp .ne 7, 3) := by decide +kernel
theorem d_M_layShort_83 : decode b_M_layShort 83 = .ok (.iconst 2, 1) := by decide +kernel
theorem d_M_layShort_84 : decode b_M_layShort 84 = .ok (.goto 5, 3) := by decide +kernel
theorem d_M_layShort_87 : decode b_M_layShort 87 = .ok (.bipush 6, 2) := by decide +kernel
theorem d_M_layShort_89 : decode b_M_layShort 89 = .ok (.iconst 0, 1) := by decide +kernel
theorem d_M_layShort_90 : decode b_M_layShort 90 = .ok (.invokevirtual 86, 3) := by decide +kernel
theorem d_M_layShort_93 : decode b_M_layShort 93 = .ok (.aload_n 0, 1) := by decide +kernel
theorem d_M_layShort_94 : decode b_M_layShort 94 = .ok (.iload_n 1, 1) := by decide +kernel
theorem d_M_layShort_95 : decode b_M_layShort 95 = .ok (.bipush 12, 2) := by decide +kernel
theorem d_M_layShort_97 : decode b_M_layShort 97 = .ok (.bipush 10, 2) := by decide +kernel
theorem d_M_layShort_99 : decode b_M_layShort 99 = .ok (.sipush 400, 3) := by decide +kernel
theorem d_M_layShort_102 : decode b_M_layShort 102 = .ok (.iconst 5, 1) := by decide +kernel
theorem d_M_layShort_103 : decode b_M_layShort 103 = .ok (.invokevirtual 66, 3) := by decide +kernel
theorem d_M_layShort_106 : decode b_M_layShort 106 = .ok (.aload_n 0, 1) := by decide +kernel
theorem d_M_layShort_107 : decode b_M_layShort 107 = .ok (.iload_n 1, 1) := by decide +kernel
theorem d_M_layShort_108 : decode b_M_layShort 108 = .ok (.bipush 9, 2) := by decide +kernel
theorem d_M_layShort_110 : decode b_M_layShort 110 = .ok (.bipush 7, 2) := by decide +kernel
theorem d_M_layShort_112 : decode b_M_layShort 112 = .ok (.sipush 600, 3) := by decide +kernel
theorem d_M_layShort_115 : decode b_M_layShort 115 = .ok (.iconst 2, 1) := by decide +kernel
theorem d_M_layShort_116 : decode b_M_layShort 116 = .ok (.invokevirtual 66, 3) := by decide +kernel
theorem d_M_layShort_119 : decode b_M_layShort 119 = .ok (.aload_n 0, 1) := by decide +kernel
theorem d_M_layShort_120 : decode b_M_layShort 120 = .ok (.iload_n 1, 1) := by decide +kernel
theorem d_M_layShort_121 : decode b_M_layShort 121 = .ok (.bipush 6, 2) := by decide +kernel
theorem d_M_layShort_123 : decode b_M_layShort 123 = .ok (.iconst 2, 1) := by decide +kernel
theorem d_M_layShort_124 : decode b_M_layShort 124 = .ok (.invokevirtual 90, 3) := by decide +kernel
theorem d_M_layShort_127 : decode b_M_layShort 127 = .ok (.aload_n 0, 1) := by decide +kernel
theorem d_M_layShort_128 : decode b_M_layShort 128 = .ok (.iload_n 1, 1) := by decide +kernel
theorem d_M_layShort_129 : decode b_M_layShort 129 = .ok (.iconst 5, 1) := by decide +kernel
theorem d_M_layShort_130 : decode b_M_layShort 130 = .ok (.bipush 6, 2) := by decide +kernel
theorem d_M_layShort_132 : decode b_M_layShort 132 = .ok (.invokevirtual 90, 3) := by decide +kernel
theorem d_M_layShort_135 : decode b_M_layShort 135 = .ok (.aload_n 0, 1) := by decide +kernel
theorem d_M_layShort_136 : decode b_M_layShort 136 = .ok (.iload_n 1, 1) := by decide +kernel
theorem d_M_layShort_137 : decode b_M_layShort 137 = .ok (.iconst 4, 1) := by decide +kernel
theorem d_M_layShort_138 : decode b_M_layShort 138 = .ok (.iconst 2, 1) := by decide +kernel
theorem d_M_layShort_139 : decode b_M_layShort 139 = .ok (.iload_n 1, 1) := by decide +kernel
theorem d_M_layShort_140 : decode b_M_layShort 140 = .ok (.bipush 49, 2) := by decide +kernel
theorem d_M_layShort_142 : decode b_M_layShort 142 = .ok (.if_icmp .ne 9, 3) := by decide +kernel
theorem d_M_layShort_145 : decode b_M_layShort 145 = .ok (.sipush 500, 3) := by decide +kernel
theorem d_M_layShort_148 : decode b_M_layShort 148 = .ok (.goto 6, 3) := by decide +kernel
theorem d_M_layShort_151 : decode b_M_layShort 151 = .ok (.sipush 700, 3) := by decide +kernel
theorem d_M_layShort_154 : decode b_M_layShort 154 = .ok (.iconst 2, 1) := by decide +kernel
theorem d_M_layShort_155 : decode b_M_layShort 155 = .ok (.invokevirtual 66, 3) := by decide +kernel
theorem d_M_layShort_158 : decode b_M_layShort 158 = .ok (.iinc 1 1, 3) := by decide +kernel
theorem d_M_layShort_161 : decode b_M_layShort 161 = .ok (.goto (-92), 3) := by decide +kernel
theorem d_M_layShort_164 : decode b_M_layShort 164 = .ok (.aload_n 0, 1) := by decide +kernel
theorem d_M_layShort_165 : decode b_M_layShort 165 = .ok (.bipush 51, 2) := by decide +kernel
theorem d_M_layShort_167 : decode b_M_layShort 167 = .ok (.iconst 0, 1) := by decide +kernel
theorem d_M_layShort_168 : decode b_M_layShort 168 = .ok (.bipush 16, 2) := by decide +kernel
theorem d_M_layShort_170 : decode b_M_layShort 170 = .ok (.iconst 1, 1) := by decide +kernel
theorem d_M_layShort_171 : decode b_M_layShort 171 = .ok (.invokevirtual 58, 3) := by decide +kernel
theorem d_M_layShort_174 : decode b_M_layShort 174 = .ok (.bipush 52, 2) := by decide +kernel
theorem d_M_layShort_176 : decode b_M_layShort 176 = .ok (.istore_n 1, 1) := by decide +kernel
theorem d_M_layShort_177 : decode b_M_layShort 177 = .ok (.iload_n 1, 1) := by decide +kernel
theorem d_M_layShort_178 : decode b_M_layShort 178 = .ok (.bipush 57, 2) := by decide +kernel
theorem d_M_layShort_180 : decode b_M_layShort 180 = .ok (.if_icmp .ge 83, 3) := by decide +kernel
theorem d_M_layShort_183 : decode b_M_layShort 183 = .ok (.iload_n 1, 1) := by decide +kernel
theorem d_M_layShort_184 : decode b_M_layShort 184 = .ok (.bipush 53, 2) := by decide +kernel
theorem d_M_layShort_186 : decode b_M_layShort 186 = .ok (.if_icmp .eq 71, 3) := by decide +kernel
theorem d_M_layShort_189 : decode b_M_layShort 189 = .ok (.iload_n 1, 1) := by decide +kernel
theorem d_M_layShort_190 : decode b_M_layShort 190 = .ok (.bipush 55, 2) := by decide +kernel
theorem d_M_layShort_192 : decode b_M_layShort 192 = .ok (.if_icmp .ne 6, 3) := by decide +kernel
theorem d_M_layShort_195 : decode b_M_layShort 195 = .ok (.goto 62, 3) := by decide +kernel
theorem d_M_layShort_198 : decode b_M_layShort 198 = .ok (.aload_n 0, 1) := by decide +kernel
theorem d_M_layShort_199 : decode b_M_layShort 199 = .ok (.iload_n 1, 1) := by decide +kernel
theorem d_M_layShort_200 : decode b_M_layShort 200 = .ok (.iload_n 1, 1) := by decide +kernel
theorem d_M_layShort_201 : decode b_M_layShort 201 = .ok (.bipush 52, 2) := by decide +kernel
theorem d_M_layShort_203 : decode b_M_layShort 203 = .ok (.if_icmp .ne 7, 3) := by decide +kernel
theorem d_M_layShort_206 : decode b_M_layShort 206 = .ok (.iconst 0, 1) := by decide +kernel
theorem d_M_layShort_207 : decode b_M_layShort 207 = .ok (.goto 14, 3) := by decide +kernel
theorem d_M_layShort_210 : decode b_M_layShort 210 = .ok (.iload_n 1, 1) := by decide +kernel
theorem d_M_layShort_211 : decode b_M_layShort 211 = .ok (.bipush 54, 2) := by decide +kernel
theorem d_M_layShort_213 : decode b_M_layShort 213 = .ok (.if_icmp .ne 7, 3) := by decide +kernel
theorem d_M_layShort_216 : decode b_M_layShort 216 = .ok (.iconst 2, 1) := by decide +kernel
theorem d_M_layShort_217 : decode b_M_layShort 217 = .ok (.goto 4, 3) := by decide +kernel
theorem d_M_layShort_220 : decode b_M_layShort 220 = .ok (.iconst 3, 1) := by decide +kernel
theorem d_M_layShort_221 : decode b_M_layShort 221 = .ok (.iconst 1, 1) := by decide +kernel
theorem d_M_layShort_222 : decode b_M_layShort 222 = .ok (.invokevirtual 86, 3) := by decide +kernel
theorem d_M_layShort_225 : decode b_M_layShort 225 = .ok (.aload_n 0, 1) := by decide +kernel
theorem d_M_layShort_226 : decode b_M_layShort 226 = .ok (.iload_n 1, 1) := by decide +kernel
theorem d_M_layShort_227 : decode b_M_layShort 227 = .ok (.bipush 12, 2) := by decide +kernel
theorem d_M_layShort_229 : decode b_M_layShort 229 = .ok (.iconst 5, 1) := by decide +kernel
theorem d_M_layShort_230 : decode b_M_layShort 230 = .ok (.invokevirtual 90, 3) := by decide +kernel
theorem d_M_layShort_233 : decode b_M_layShort 233 = .ok (.aload_n 0, 1) := by decide +kernel
theorem d_M_layShort_234 : decode b_M_layShort 234 = .ok (.iload_n 1, 1) := by decide +kernel
theorem d_M_layShort_235 : decode b_M_layShort 235 = .ok (.bipush 11, 2) := by decide +kernel
theorem d_M_layShort_237 : decode b_M_layShort 237 = .ok (.bipush 7, 2) := by decide +kernel
theorem d_M_layShort_239 : decode b_M_layShort 239 = .ok (.bipush 100, 2) := by decide +kernel
theorem d_M_layShort_241 : decode b_M_layShort 241 = .ok (.iconst 4, 1) := by decide +kernel
theorem d_M_layShort_242 : decode b_M_layShort 242 = .ok (.invokevirtual 66, 3) := by decide +kernel
theorem d_M_layShort_245 : decode b_M_layShort 245 = .ok (.aload_n 0, 1) := by decide +kernel
theorem d_M_layShort_246 : decode b_M_layShort 246 = .ok (.iload_n 1, 1) := by decide +kernel
theorem d_M_layShort_247 : decode b_M_layShort 247 = .ok (.bipush 6, 2) := by decide +kernel
theorem d_M_layShort_249 : decode b_M_layShort 249 = .ok (.iconst 2, 1) := by decide +kernel
theorem d_M_layShort_250 : decode b_M_layShort 250 = .ok (.sipush 400, 3) := by decide +kernel
theorem d_M_layShort_253 : decode b_M_layShort 253 = .ok (.iconst 4, 1) := by decide +kernel
theorem d_M_layShort_254 : decode b_M_layShort 254 = .ok (.invokevirtual 66, 3) := by decide +kernel
theorem d_M_layShort_257 : decode b_M_layShort 257 = .ok (.iinc 1 1, 3) := by decide +kernel
theorem d_M_layShort_260 : decode b_M_layShort 260 = .ok (.goto (-83), 3) := by decide +kernel
theorem d_M_layShort_263 : decode b_M_layShort 263 = .ok (.aload_n 0, 1) := by decide +kernel
theorem d_M_layShort_264 : decode b_M_layShort 264 = .ok (.bipush 53, 2) := by decide +kernel
theorem d_M_layShort_266 : decode b_M_layShort 266 = .ok (.iconst 1, 1) := by decide +kernel
theorem d_M_layShort_267 : decode b_M_layShort 267 = .ok (.invokevirtual 93, 3) := by decide +kernel
theorem d_M_layShort_270 : decode b_M_layShort 270 = .ok (.aload_n 0, 1) := by decide +kernel
theorem d_M_layShort_271 : decode b_M_layShort 271 = .ok (.bipush 64, 2) := by decide +kernel
theorem d_M_layShort_273 : decode b_M_layShort 273 = .ok (.iconst 5, 1) := by decide +kernel
theorem d_M_layShort_274 : decode b_M_layShort 274 = .ok (.invokevirtual 93, 3) := by decide +kernel
theorem d_M_layShort_277 : decode b_M_layShort 277 = .ok (.aload_n 0, 1) := by decide +kernel
theorem d_M_layShort_278 : decode b_M_layShort 278 = .ok (.bipush 55, 2) := by decide +kernel
theorem d_M_layShort_280 : decode b_M_layShort 280 = .ok (.iconst 3, 1) := by decide +kernel
theorem d_M_layShort_281 : decode b_M_layShort 281 = .ok (.iconst 1, 1) := by decide +kernel
theorem d_M_layShort_282 : decode b_M_layShort 282 = .ok (.invokevirtual 86, 3) := by decide +kernel
theorem d_M_layShort_285 : decode b_M_layShort 285 = .ok (.aload_n 0, 1) := by decide +kernel
theorem d_M_layShort_286 : decode b_M_layShort 286 = .ok (.bipush 55, 2) := by decide +kernel
theorem d_M_layShort_288 : decode b_M_layShort 288 = .ok (.bipush 12, 2) := by decide +kernel
theorem d_M_layShort_290 : decode b_M_layShort 290 = .ok (.bipush 9, 2) := by decide +kernel
theorem d_M_layShort_292 : decode b_M_layShort 292 = .ok (.invokevirtual 90, 3) := by decide +kernel
theorem d_M_layShort_295 : decode b_M_layShort 295 = .ok (.aload_n 0, 1) := by decide +kernel
theorem d_M_layShort_296 : decode b_M_layShort 296 = .ok (.bipush 55, 2) := by decide +kernel
theorem d_M_layShort_298 : decode b_M_layShort 298 = .ok (.bipush 7, 2) := by decide +kernel
theorem d_M_layShort_300 : decode b_M_layShort 300 = .ok (.iconst 5, 1) := by decide +kernel
theorem d_M_layShort_301 : decode b_M_layShort 301 = .ok (.iconst 2, 1) := by decide +kernel
theorem d_M_layShort_302 : decode b_M_layShort 302 = .ok (.invokevirtual 58, 3) := by decide +kernel
theorem d_M_layShort_305 : decode b_M_layShort 305 = .ok (.aload_n 0, 1) := by decide +kernel
theorem d_M_layShort_306 : decode b_M_layShort 306 = .ok (.bipush 55, 2) := by decide +kernel
theorem d_M_layShort_308 : decode b_M_layShort 308 = .ok (.bipush 6, 2) := by decide +kernel
theorem d_M_layShort_310 : decode b_M_layShort 310 = .ok (.iconst 4, 1) := by decide +kernel
theorem d_M_layShort_311 : decode b_M_layShort 311 = .ok (.invokevirtual 90, 3) := by decide +kernel
theorem d_M_layShort_314 : decode b_M_layShort 314 = .ok (.aload_n 0, 1) := by decide +kernel
theorem d_M_layShort_315 : decode b_M_layShort 315 = .ok (.bipush 55, 2) := by decide +kernel
theorem d_M_layShort_317 : decode b_M_layShort 317 = .ok (.iconst 5, 1) := by decide +kernel
theorem d_M_layShort_318 : decode b_M_layShort 318 = .ok (.bipush 6, 2) := by decide +kernel
theorem d_M_layShort_320 : decode b_M_layShort 320 = .ok (.invokevirtual 90, 3) := by decide +kernel
theorem d_M_layShort_323 : decode b_M_layShort 323 = .ok (.aload_n 0, 1) := by decide +kernel
theorem d_M_layShort_324 : decode b_M_layShort 324 = .ok (.bipush 55, 2) := by decide +kernel
theorem d_M_layShort_326 : decode b_M_layShort 326 = .ok (.iconst 4, 1) := by decide +kernel
theorem d_M_layShort_327 : decode b_M_layShort 327 = .ok (.iconst 3, 1) := by decide +kernel
theorem d_M_layShort_328 : decode b_M_layShort 328 = .ok (.sipush 400, 3) := by decide +kernel
theorem d_M_layShort_331 : decode b_M_layShort 331 = .ok (.bipush 8, 2) := by decide +kernel
theorem d_M_layShort_333 : decode b_M_layShort 333 = .ok (.invokevirtual 66, 3) := by decide +kernel
theorem d_M_layShort_336 : decode b_M_layShort 336 = .ok (.aload_n 0, 1) := by decide +kernel
theorem d_M_layShort_337 : decode b_M_layShort 337 = .ok (.bipush 55, 2) := by decide +kernel
theorem d_M_layShort_339 : decode b_M_layShort 339 = .ok (.iconst 2, 1) := by decide +kernel
theorem d_M_layShort_340 : decode b_M_layShort 340 = .ok (.iconst 5, 1) := by decide +kernel
theorem d_M_layShort_341 : decode b_M_layShort 341 = .ok (.invokevirtual 90, 3) := by decide +kernel
theorem d_M_layShort_344 : decode b_M_layShort 344 = .ok (.bipush 57, 2) := by decide +kernel
theorem d_M_layShort_346 : decode b_M_layShort 346 = .ok (.istore_n 1, 1) := by decide +kernel
theorem d_M_layShort_347 : decode b_M_layShort 347 = .ok (.iload_n 1, 1) := by decide +kernel
theorem d_M_layShort_348 : decode b_M_layShort 348 = .ok (.bipush 60, 2) := by decide +kernel
theorem d_M_layShort_350 : decode b_M_layShort 350 = .ok (.if_icmp .ge 67, 3) := by decide +kernel
theorem d_M_layShort_353 : decode b_M_layShort 353 = .ok (.aload_n 0, 1) := by decide +kernel
theorem d_M_layShort_354 : decode b_M_layShort 354 = .ok (.iload_n 1, 1) := by decide +kernel
theorem d_M_layShort_355 : decode b_M_layShort 355 = .ok (.iconst 4, 1) := by decide +kernel
theorem d_M_layShort_356 : decode b_M_layShort 356 = .ok (.iconst 1, 1) := by decide +kernel
theorem d_M_layShort_357 : decode b_M_layShort 357 = .ok (.invokevirtual 86, 3) := by decide +kernel
theorem d_M_layShort_360 : decode b_M_layShort 360 = .ok (.aload_n 0, 1) := by decide +kernel
theorem d_M_layShort_361 : decode b_M_layShort 361 = .ok (.iload_n 1, 1) := by decide +kernel
theorem d_M_layShort_362 : decode b_M_layShort 362 = .ok (.bipush 10, 2) := by decide +kernel
theorem d_M_layShort_364 : decode b_M_layShort 364 = .ok (.iconst 3, 1) := by decide +kernel
theorem d_M_layShort_365 : decode b_M_layShort 365 = .ok (.iload_n 1, 1) := by decide +kernel
theorem d_M_layShort_366 : decode b_M_layShort 366 = .ok (.bipush 57, 2) := by decide +kernel
theorem d_M_layShort_368 : decode b_M_layShort 368 = .ok (.isub, 1) := by decide +kernel
theorem d_M_layShort_369 : decode b_M_layShort 369 = .ok (.invokevirtual 58, 3) := by decide +kernel
theorem d_M_layShort_372 : decode b_M_layShort 372 = .ok (.iload_n 1, 1) := by decide +kernel
theorem d_M_layShort_373 : decode b_M_layShort 373 = .ok (.bipush 59, 2) := by decide +kernel
theorem d_M_layShort_375 : decode b_M_layShort 375 = .ok (.if_icmp .ne 11, 3) := by decide +kernel
theorem d_M_layShort_378 : decode b_M_layShort 378 = .ok (.aload_n 0, 1) := by decide +kernel
theorem d_M_layShort_379 : decode b_M_layShort 379 = .ok (.iload_n 1, 1) := by decide +kernel
theorem d_M_layShort_380 : decode b_M_layShort 380 = .ok (.bipush 12, 2) := by decide +kernel
theorem d_M_layShort_382 : decode b_M_layShort 382 = .ok (.iconst 5, 1) := by decide +kernel
theorem d_M_layShort_383 : decode b_M_layShort 383 = .ok (.invokevirtual 90, 3) := by decide +kernel
theorem d_M_layShort_386 : decode b_M_layShort 386 = .ok (.aload_n 0, 1) := by decide +kernel
theorem d_M_layShort_387 : decode b_M_layShort 387 = .ok (.iload_n 1, 1) := by decide +kernel
theorem d_M_layShort_388 : decode b_M_layShort 388 = .ok (.bipush 9, 2) := by decide +kernel
theorem d_M_layShort_390 : decode b_M_layShort 390 = .ok (.bipush 7, 2) := by decide +kernel
theorem d_M_layShort_392 : decode b_M_layShort 392 = .ok (.sipush 500, 3) := by decide +kernel
theorem d_M_layShort_395 : decode b_M_layShort 395 = .ok (.iconst 2, 1) := by decide +kernel
theorem d_M_layShort_396 : decode b_M_layShort 396 = .ok (.invokevirtual 66, 3) := by decide +kernel
theorem d_M_layShort_399 : decode b_M_layShort 399 = .ok (.aload_n 0, 1) := by decide +kernel
theorem d_M_layShort_400 : decode b_M_layShort 400 = .ok (.iload_n 1, 1) := by decide +kernel
theorem d_M_layShort_401 : decode b_M_layShort 401 = .ok (.bipush 6, 2) := by decide +kernel
theorem d_M_layShort_403 : decode b_M_layShort 403 = .ok (.iconst 2, 1) := by decide +kernel
theorem d_M_layShort_404 : decode b_M_layShort 404 = .ok (.sipush 400, 3) := by decide +kernel
theorem d_M_layShort_407 : decode b_M_layShort 407 = .ok (.iconst 4, 1) := by decide +kernel
theorem d_M_layShort_408 : decode b_M_layShort 408 = .ok (.invokevirtual 66, 3) := by decide +kernel
theorem d_M_layShort_411 : decode b_M_layShort 411 = .ok (.iinc 1 1, 3) := by decide +kernel
theorem d_M_layShort_414 : decode b_M_layShort 414 = .ok (.goto (-67), 3) := by decide +kernel
theorem d_M_layShort_417 : decode b_M_layShort 417 = .ok (.bipush 60, 2) := by decide +kernel
theorem d_M_layShort_419 : decode b_M_layShort 419 = .ok (.istore_n 1, 1) := by decide +kernel
theorem d_M_layShort_420 : decode b_M_layShort 420 = .ok (.iload_n 1, 1) := by decide +kernel
theorem d_M_layShort_421 : decode b_M_layShort 421 = .ok (.bipush 64, 2) := by decide +kernel
theorem d_M_layShort_423 : decode b_M_layShort 423 = .ok (.if_icmp .ge 60, 3) := by decide +kernel
theorem d_M_layShort_426 : decode b_M_layShort 426 = .ok (.aload_n 0, 1) := by decide +kernel
theorem d_M_layShort_427 : decode b_M_layShort 427 = .ok (.iload_n 1, 1) := by decide +kernel
theorem d_M_layShort_428 : decode b_M_layShort 428 = .ok (.iconst 4, 1) := by decide +kernel
theorem d_M_layShort_429 : decode b_M_layShort 429 = .ok (.iconst 1, 1) := by decide +kernel
theorem d_M_layShort_430 : decode b_M_layShort 430 = .ok (.invokevirtual 86, 3) := by decide +kernel
theorem d_M_layShort_433 : decode b_M_layShort 433 = .ok (.aload_n 0, 1) := by decide +kernel
theorem d_M_layShort_434 : decode b_M_layShort 434 = .ok (.iload_n 1, 1) := by decide +kernel
theorem d_M_layShort_435 : decode b_M_layShort 435 = .ok (.bipush 10, 2) := by decide +kernel
theorem d_M_layShort_437 : decode b_M_layShort 437 = .ok (.iconst 3, 1) := by decide +kernel
theorem d_M_layShort_438 : decode b_M_layShort 438 = .ok (.iconst 3, 1) := by decide +kernel
theorem d_M_layShort_439 : decode b_M_layShort 439 = .ok (.invokevirtual 58, 3) := by decide +kernel
theorem d_M_layShort_442 : decode b_M_layShort 442 = .ok (.aload_n 0, 1) := by decide +kernel
theorem d_M_layShort_443 : decode b_M_layShort 443 = .ok (.iload_n 1, 1) := by decide +kernel
