theorem d_Arit_holds_0 : decode b_Arit_holds 0 = .ok (.iload_n 0, 1) := by decide +kernel
theorem d_Arit_holds_1 : decode b_Arit_holds 1 = .ok (.tableswitch 85 4 8 #[35, 46, 57, 68, 79], 35) := by decide +kernel
theorem d_Arit_holds_36 : decode b_Arit_holds 36 = .ok (.iload_n 1, 1) := by decide +kernel
theorem d_Arit_holds_37 : decode b_Arit_holds 37 = .ok (.iload_n 2, 1) := by decide +kernel
theorem d_Arit_holds_38 : decode b_Arit_holds 38 = .ok (.if_icmp .ne 7, 3) := by decide +kernel
theorem d_Arit_holds_41 : decode b_Arit_holds 41 = .ok (.iconst 1, 1) := by decide +kernel
theorem d_Arit_holds_42 : decode b_Arit_holds 42 = .ok (.goto 4, 3) := by decide +kernel
theorem d_Arit_holds_45 : decode b_Arit_holds 45 = .ok (.iconst 0, 1) := by decide +kernel
theorem d_Arit_holds_46 : decode b_Arit_holds 46 = .ok (.ireturn, 1) := by decide +kernel
theorem d_Arit_holds_47 : decode b_Arit_holds 47 = .ok (.iload_n 1, 1) := by decide +kernel
theorem d_Arit_holds_48 : decode b_Arit_holds 48 = .ok (.iload_n 2, 1) := by decide +kernel
theorem d_Arit_holds_49 : decode b_Arit_holds 49 = .ok (.if_icmp .eq 7, 3) := by decide +kernel
theorem d_Arit_holds_52 : decode b_Arit_holds 52 = .ok (.iconst 1, 1) := by decide +kernel
theorem d_Arit_holds_53 : decode b_Arit_holds 53 = .ok (.goto 4, 3) := by decide +kernel
theorem d_Arit_holds_56 : decode b_Arit_holds 56 = .ok (.iconst 0, 1) := by decide +kernel
theorem d_Arit_holds_57 : decode b_Arit_holds 57 = .ok (.ireturn, 1) := by decide +kernel
theorem d_Arit_holds_58 : decode b_Arit_holds 58 = .ok (.iload_n 1, 1) := by decide +kernel
theorem d_Arit_holds_59 : decode b_Arit_holds 59 = .ok (.iload_n 2, 1) := by decide +kernel
theorem d_Arit_holds_60 : decode b_Arit_holds 60 = .ok (.if_icmp .ge 7, 3) := by decide +kernel
theorem d_Arit_holds_63 : decode b_Arit_holds 63 = .ok (.iconst 1, 1) := by decide +kernel
theorem d_Arit_holds_64 : decode b_Arit_holds 64 = .ok (.goto 4, 3) := by decide +kernel
theorem d_Arit_holds_67 : decode b_Arit_holds 67 = .ok (.iconst 0, 1) := by decide +kernel
theorem d_Arit_holds_68 : decode b_Arit_holds 68 = .ok (.ireturn, 1) := by decide +kernel
theorem d_Arit_holds_69 : decode b_Arit_holds 69 = .ok (.iload_n 1, 1) := by decide +kernel
theorem d_Arit_holds_70 : decode b_Arit_holds 70 = .ok (.iload_n 2, 1) := by decide +kernel
theorem d_Arit_holds_71 : decode b_Arit_holds 71 = .ok (.if_icmp .lt 7, 3) := by decide +kernel
theorem d_Arit_holds_74 : decode b_Arit_holds 74 = .ok (.iconst 1, 1) := by decide +kernel
theorem d_Arit_holds_75 : decode b_Arit_holds 75 = .ok (.goto 4, 3) := by decide +kernel
theorem d_Arit_holds_78 : decode b_Arit_holds 78 = .ok (.iconst 0, 1) := by decide +kernel
theorem d_Arit_holds_79 : decode b_Arit_holds 79 = .ok (.ireturn, 1) := by decide +kernel
theorem d_Arit_holds_80 : decode b_Arit_holds 80 = .ok (.iload_n 1, 1) := by decide +kernel
theorem d_Arit_holds_81 : decode b_Arit_holds 81 = .ok (.iload_n 2, 1) := by decide +kernel
theorem d_Arit_holds_82 : decode b_Arit_holds 82 = .ok (.invokestatic 7, 3) := by decide +kernel
theorem d_Arit_holds_85 : decode b_Arit_holds 85 = .ok (.ireturn, 1) := by decide +kernel
theorem d_Arit_holds_86 : decode b_Arit_holds 86 = .ok (.iload_n 1, 1) := by decide +kernel
theorem d_Arit_holds_87 : decode b_Arit_holds 87 = .ok (.iload_n 2, 1) := by decide +kernel
theorem d_Arit_holds_88 : decode b_Arit_holds 88 = .ok (.invokestatic 7, 3) := by decide +kernel
theorem d_Arit_holds_91 : decode b_Arit_holds 91 = .ok (.ifCond .ne 7, 3) := by decide +kernel
theorem d_Arit_holds_94 : decode b_Arit_holds 94 = .ok (.iconst 1, 1) := by decide +kernel
theorem d_Arit_holds_95 : decode b_Arit_holds 95 = .ok (.goto 4, 3) := by decide +kernel
theorem d_Arit_holds_98 : decode b_Arit_holds 98 = .ok (.iconst 0, 1) := by decide +kernel
theorem d_Arit_holds_99 : decode b_Arit_holds 99 = .ok (.ireturn, 1) := by decide +kernel
theorem d_Arit_result_0 : decode b_Arit_result 0 = .ok (.iload_n 0, 1) := by decide +kernel
theorem d_Arit_result_1 : decode b_Arit_result 1 = .ok (.tableswitch 157 18 36 #[91, 99, 110, 124, 128, 132, 136, 143, 150, 91, 95, 136, 99, 110, 124, 143, 150, 128, 132], 91) := by decide +kernel
theorem d_Arit_result_92 : decode b_Arit_result 92 = .ok (.iload_n 1, 1) := by decide +kernel
theorem d_Arit_result_93 : decode b_Arit_result 93 = .ok (.iload_n 2, 1) := by decide +kernel
theorem d_Arit_result_94 : decode b_Arit_result 94 = .ok (.iadd, 1) := by decide +kernel
theorem d_Arit_result_95 : decode b_Arit_result 95 = .ok (.ireturn, 1) := by decide +kernel
theorem d_Arit_result_96 : decode b_Arit_result 96 = .ok (.iload_n 1, 1) := by decide +kernel
theorem d_Arit_result_97 : decode b_Arit_result 97 = .ok (.iload_n 2, 1) := by decide +kernel
theorem d_Arit_result_98 : decode b_Arit_result 98 = .ok (.isub, 1) := by decide +kernel
theorem d_Arit_result_99 : decode b_Arit_result 99 = .ok (.ireturn, 1) := by decide +kernel
theorem d_Arit_result_100 : decode b_Arit_result 100 = .ok (.iload_n 1, 1) := by decide +kernel
theorem d_Arit_result_101 : decode b_Arit_result 101 = .ok (.iload_n 2, 1) := by decide +kernel
theorem d_Arit_result_102 : decode b_Arit_result 102 = .ok (.if_icmp .ge 7, 3) := by decide +kernel
theorem d_Arit_result_105 : decode b_Arit_result 105 = .ok (.iconst 1, 1) := by decide +kernel
theorem d_Arit_result_106 : decode b_Arit_result 106 = .ok (.goto 4, 3) := by decide +kernel
theorem d_Arit_result_109 : decode b_Arit_result 109 = .ok (.iconst 0, 1) := by decide +kernel
theorem d_Arit_result_110 : decode b_Arit_result 110 = .ok (.ireturn, 1) := by decide +kernel
theorem d_Arit_result_111 : decode b_Arit_result 111 = .ok (.iload_n 1, 1) := by decide +kernel
theorem d_Arit_result_112 : decode b_Arit_result 112 = .ok (.iload_n 2, 1) := by decide +kernel
theorem d_Arit_result_113 : decode b_Arit_result 113 = .ok (.invokestatic 7, 3) := by decide +kernel
theorem d_Arit_result_116 : decode b_Arit_result 116 = .ok (.ifCond .eq 7, 3) := by decide +kernel
theorem d_Arit_result_119 : decode b_Arit_result 119 = .ok (.iconst 1, 1) := by decide +kernel
theorem d_Arit_result_120 : decode b_Arit_result 120 = .ok (.goto 4, 3) := by decide +kernel
theorem d_Arit_result_123 : decode b_Arit_result 123 = .ok (.iconst 0, 1) := by decide +kernel
theorem d_Arit_result_124 : decode b_Arit_result 124 = .ok (.ireturn, 1) := by decide +kernel
theorem d_Arit_result_125 : decode b_Arit_result 125 = .ok (.iload_n 1, 1) := by decide +kernel
theorem d_Arit_result_126 : decode b_Arit_result 126 = .ok (.iload_n 2, 1) := by decide +kernel
theorem d_Arit_result_127 : decode b_Arit_result 127 = .ok (.ixor, 1) := by decide +kernel
theorem d_Arit_result_128 : decode b_Arit_result 128 = .ok (.ireturn, 1) := by decide +kernel
theorem d_Arit_result_129 : decode b_Arit_result 129 = .ok (.iload_n 1, 1) := by decide +kernel
theorem d_Arit_result_130 : decode b_Arit_result 130 = .ok (.iload_n 2, 1) := by decide +kernel
theorem d_Arit_result_131 : decode b_Arit_result 131 = .ok (.ior, 1) := by decide +kernel
theorem d_Arit_result_132 : decode b_Arit_result 132 = .ok (.ireturn, 1) := by decide +kernel
theorem d_Arit_result_133 : decode b_Arit_result 133 = .ok (.iload_n 1, 1) := by decide +kernel
theorem d_Arit_result_134 : decode b_Arit_result 134 = .ok (.iload_n 2, 1) := by decide +kernel
theorem d_Arit_result_135 : decode b_Arit_result 135 = .ok (.iand, 1) := by decide +kernel
theorem d_Arit_result_136 : decode b_Arit_result 136 = .ok (.ireturn, 1) := by decide +kernel
theorem d_Arit_result_137 : decode b_Arit_result 137 = .ok (.iload_n 1, 1) := by decide +kernel
theorem d_Arit_result_138 : decode b_Arit_result 138 = .ok (.iload_n 2, 1) := by decide +kernel
theorem d_Arit_result_139 : decode b_Arit_result 139 = .ok (.bipush 31, 2) := by decide +kernel
theorem d_Arit_result_141 : decode b_Arit_result 141 = .ok (.iand, 1) := by decide +kernel
theorem d_Arit_result_142 : decode b_Arit_result 142 = .ok (.ishl, 1) := by decide +kernel
theorem d_Arit_result_143 : decode b_Arit_result 143 = .ok (.ireturn, 1) := by decide +kernel
theorem d_Arit_result_144 : decode b_Arit_result 144 = .ok (.iload_n 1, 1) := by decide +kernel
theorem d_Arit_result_145 : decode b_Arit_result 145 = .ok (.iload_n 2, 1) := by decide +kernel
theorem d_Arit_result_146 : decode b_Arit_result 146 = .ok (.bipush 31, 2) := by decide +kernel
theorem d_Arit_result_148 : decode b_Arit_result 148 = .ok (.iand, 1) := by decide +kernel
theorem d_Arit_result_149 : decode b_Arit_result 149 = .ok (.iushr, 1) := by decide +kernel
theorem d_Arit_result_150 : decode b_Arit_result 150 = .ok (.ireturn, 1) := by decide +kernel
theorem d_Arit_result_151 : decode b_Arit_result 151 = .ok (.iload_n 1, 1) := by decide +kernel
theorem d_Arit_result_152 : decode b_Arit_result 152 = .ok (.iload_n 2, 1) := by decide +kernel
theorem d_Arit_result_153 : decode b_Arit_result 153 = .ok (.bipush 31, 2) := by decide +kernel
theorem d_Arit_result_155 : decode b_Arit_result 155 = .ok (.iand, 1) := by decide +kernel
theorem d_Arit_result_156 : decode b_Arit_result 156 = .ok (.ishr, 1) := by decide +kernel
theorem d_Arit_result_157 : decode b_Arit_result 157 = .ok (.ireturn, 1) := by decide +kernel
theorem d_Arit_result_158 : decode b_Arit_result 158 = .ok (.iload_n 0, 1) := by decide +kernel
theorem d_Arit_result_159 : decode b_Arit_result 159 = .ok (.iload_n 1, 1) := by decide +kernel
theorem d_Arit_result_160 : decode b_Arit_result 160 = .ok (.iload_n 2, 1) := by decide +kernel
theorem d_Arit_result_161 : decode b_Arit_result 161 = .ok (.invokestatic 13, 3) := by decide +kernel
theorem d_Arit_result_164 : decode b_Arit_result 164 = .ok (.ireturn, 1) := by decide +kernel
theorem d_Arit_product_0 : decode b_Arit_product 0 = .ok (.iload_n 0, 1) := by decide +kernel
theorem d_Arit_product_1 : decode b_Arit_product 1 = .ok (.tableswitch 77 37 40 #[31, 35, 45, 59], 31) := by decide +kernel
theorem d_Arit_product_32 : decode b_Arit_product 32 = .ok (.iload_n 1, 1) := by decide +kernel
theorem d_Arit_product_33 : decode b_Arit_product 33 = .ok (.iload_n 2, 1) := by decide +kernel
theorem d_Arit_product_34 : decode b_Arit_product 34 = .ok (.imul, 1) := by decide +kernel
theorem d_Arit_product_35 : decode b_Arit_product 35 = .ok (.ireturn, 1) := by decide +kernel
theorem d_Arit_product_36 : decode b_Arit_product 36 = .ok (.iload_n 1, 1) := by decide +kernel
theorem d_Arit_product_37 : decode b_Arit_product 37 = .ok (.i2l, 1) := by decide +kernel
theorem d_Arit_product_38 : decode b_Arit_product 38 = .ok (.iload_n 2, 1) := by decide +kernel
theorem d_Arit_product_39 : decode b_Arit_product 39 = .ok (.i2l, 1) := by decide +kernel
theorem d_Arit_product_40 : decode b_Arit_product 40 = .ok (.lmul, 1) := by decide +kernel
theorem d_Arit_product_41 : decode b_Arit_product 41 = .ok (.bipush 32, 2) := by decide +kernel
theorem d_Arit_product_43 : decode b_Arit_product 43 = .ok (.lshr, 1) := by decide +kernel
theorem d_Arit_product_44 : decode b_Arit_product 44 = .ok (.l2i, 1) := by decide +kernel
theorem d_Arit_product_45 : decode b_Arit_product 45 = .ok (.ireturn, 1) := by decide +kernel
theorem d_Arit_product_46 : decode b_Arit_product 46 = .ok (.iload_n 1, 1) := by decide +kernel
theorem d_Arit_product_47 : decode b_Arit_product 47 = .ok (.i2l, 1) := by decide +kernel
theorem d_Arit_product_48 : decode b_Arit_product 48 = .ok (.iload_n 2, 1) := by decide +kernel
theorem d_Arit_product_49 : decode b_Arit_product 49 = .ok (.i2l, 1) := by decide +kernel
theorem d_Arit_product_50 : decode b_Arit_product 50 = .ok (.ldc2_w 17, 3) := by decide +kernel
theorem d_Arit_product_53 : decode b_Arit_product 53 = .ok (.land, 1) := by decide +kernel
theorem d_Arit_product_54 : decode b_Arit_product 54 = .ok (.lmul, 1) := by decide +kernel
theorem d_Arit_product_55 : decode b_Arit_product 55 = .ok (.bipush 32, 2) := by decide +kernel
theorem d_Arit_product_57 : decode b_Arit_product 57 = .ok (.lshr, 1) := by decide +kernel
theorem d_Arit_product_58 : decode b_Arit_product 58 = .ok (.l2i, 1) := by decide +kernel
theorem d_Arit_product_59 : decode b_Arit_product 59 = .ok (.ireturn, 1) := by decide +kernel
theorem d_Arit_product_60 : decode b_Arit_product 60 = .ok (.iload_n 1, 1) := by decide +kernel
theorem d_Arit_product_61 : decode b_Arit_product 61 = .ok (.i2l, 1) := by decide +kernel
theorem d_Arit_product_62 : decode b_Arit_product 62 = .ok (.ldc2_w 17, 3) := by decide +kernel
theorem d_Arit_product_65 : decode b_Arit_product 65 = .ok (.land, 1) := by decide +kernel
theorem d_Arit_product_66 : decode b_Arit_product 66 = .ok (.iload_n 2, 1) := by decide +kernel
theorem d_Arit_product_67 : decode b_Arit_product 67 = .ok (.i2l, 1) := by decide +kernel
theorem d_Arit_product_68 : decode b_Arit_product 68 = .ok (.ldc2_w 17, 3) := by decide +kernel
theorem d_Arit_product_71 : decode b_Arit_product 71 = .ok (.land, 1) := by decide +kernel
theorem d_Arit_product_72 : decode b_Arit_product 72 = .ok (.lmul, 1) := by decide +kernel
theorem d_Arit_product_73 : decode b_Arit_product 73 = .ok (.bipush 32, 2) := by decide +kernel
theorem d_Arit_product_75 : decode b_Arit_product 75 = .ok (.lushr, 1) := by decide +kernel
theorem d_Arit_product_76 : decode b_Arit_product 76 = .ok (.l2i, 1) := by decide +kernel
theorem d_Arit_product_77 : decode b_Arit_product 77 = .ok (.ireturn, 1) := by decide +kernel
theorem d_Arit_product_78 : decode b_Arit_product 78 = .ok (.iload_n 0, 1) := by decide +kernel
theorem d_Arit_product_79 : decode b_Arit_product 79 = .ok (.iload_n 1, 1) := by decide +kernel
theorem d_Arit_product_80 : decode b_Arit_product 80 = .ok (.iload_n 2, 1) := by decide +kernel
theorem d_Arit_product_81 : decode b_Arit_product 81 = .ok (.invokestatic 19, 3) := by decide +kernel
theorem d_Arit_product_84 : decode b_Arit_product 84 = .ok (.ireturn, 1) := by decide +kernel
theorem d_Arit_quotient_0 : decode b_Arit_quotient 0 = .ok (.iload_n 0, 1) := by decide +kernel
theorem d_Arit_quotient_1 : decode b_Arit_quotient 1 = .ok (.bipush 43, 2) := by decide +kernel
theorem d_Arit_quotient_3 : decode b_Arit_quotient 3 = .ok (.if_icmp .eq 9, 3) := by decide +kernel
theorem d_Arit_quotient_6 : decode b_Arit_quotient 6 = .ok (.iload_n 0, 1) := by decide +kernel
theorem d_Arit_quotient_7 : decode b_Arit_quotient 7 = .ok (.bipush 44, 2) := by decide +kernel
theorem d_Arit_quotient_9 : decode b_Arit_quotient 9 = .ok (.if_icmp .ne 7, 3) := by decide +kernel
theorem d_Arit_quotient_12 : decode b_Arit_quotient 12 = .ok (.iconst 1, 1) := by decide +kernel
theorem d_Arit_quotient_13 : decode b_Arit_quotient 13 = .ok (.goto 4, 3) := by decide +kernel
theorem d_Arit_quotient_16 : decode b_Arit_quotient 16 = .ok (.iconst 0, 1) := by decide +kernel
theorem d_Arit_quotient_17 : decode b_Arit_quotient 17 = .ok (.istore_n 3, 1) := by decide +kernel
theorem d_Arit_quotient_18 : decode b_Arit_quotient 18 = .ok (.iload_n 0, 1) := by decide +kernel
theorem d_Arit_quotient_19 : decode b_Arit_quotient 19 = .ok (.bipush 41, 2) := by decide +kernel
theorem d_Arit_quotient_21 : decode b_Arit_quotient 21 = .ok (.if_icmp .eq 9, 3) := by decide +kernel
theorem d_Arit_quotient_24 : decode b_Arit_quotient 24 = .ok (.iload_n 0, 1) := by decide +kernel
theorem d_Arit_quotient_25 : decode b_Arit_quotient 25 = .ok (.bipush 43, 2) := by decide +kernel
theorem d_Arit_quotient_27 : decode b_Arit_quotient 27 = .ok (.if_icmp .ne 7, 3) := by decide +kernel
theorem d_Arit_quotient_30 : decode b_Arit_quotient 30 = .ok (.iconst 1, 1) := by decide +kernel
theorem d_Arit_quotient_31 : decode b_Arit_quotient 31 = .ok (.goto 4, 3) := by decide +kernel
theorem d_Arit_quotient_34 : decode b_Arit_quotient 34 = .ok (.iconst 0, 1) := by decide +kernel
theorem d_Arit_quotient_35 : decode b_Arit_quotient 35 = .ok (.istore 4, 2) := by decide +kernel
theorem d_Arit_quotient_37 : decode b_Arit_quotient 37 = .ok (.iload 4, 2) := by decide +kernel
theorem d_Arit_quotient_39 : decode b_Arit_quotient 39 = .ok (.ifCond .eq 8, 3) := by decide +kernel
theorem d_Arit_quotient_42 : decode b_Arit_quotient 42 = .ok (.iload_n 1, 1) := by decide +kernel
theorem d_Arit_quotient_43 : decode b_Arit_quotient 43 = .ok (.i2l, 1) := by decide +kernel
theorem d_Arit_quotient_44 : decode b_Arit_quotient 44 = .ok (.goto 9, 3) := by decide +kernel
theorem d_Arit_quotient_47 : decode b_Arit_quotient 47 = .ok (.iload_n 1, 1) := by decide +kernel
theorem d_Arit_quotient_48 : decode b_Arit_quotient 48 = .ok (.i2l, 1) := by decide +kernel
theorem d_Arit_quotient_49 : decode b_Arit_quotient 49 = .ok (.ldc2_w 17, 3) := by decide +kernel
theorem d_Arit_quotient_52 : decode b_Arit_quotient 52 = .ok (.land, 1) := by decide +kernel
theorem d_Arit_quotient_53 : decode b_Arit_quotient 53 = .ok (.lstore 5, 2) := by decide +kernel
theorem d_Arit_quotient_55 : decode b_Arit_quotient 55 = .ok (.iload 4, 2) := by decide +kernel
theorem d_Arit_quotient_57 : decode b_Arit_quotient 57 = .ok (.ifCond .eq 8, 3) := by decide +kernel
theorem d_Arit_quotient_60 : decode b_Arit_quotient 60 = .ok (.iload_n 2, 1) := by decide +kernel
theorem d_Arit_quotient_61 : decode b_Arit_quotient 61 = .ok (.i2l, 1) := by decide +kernel
theorem d_Arit_quotient_62 : decode b_Arit_quotient 62 = .ok (.goto 9, 3) := by decide +kernel
theorem d_Arit_quotient_65 : decode b_Arit_quotient 65 = .ok (.iload_n 2, 1) := by decide +kernel
theorem d_Arit_quotient_66 : decode b_Arit_quotient 66 = .ok (.i2l, 1) := by decide +kernel
theorem d_Arit_quotient_67 : decode b_Arit_quotient 67 = .ok (.ldc2_w 17, 3) := by decide +kernel
theorem d_Arit_quotient_70 : decode b_Arit_quotient 70 = .ok (.land, 1) := by decide +kernel
theorem d_Arit_quotient_71 : decode b_Arit_quotient 71 = .ok (.lstore 7, 2) := by decide +kernel
theorem d_Arit_quotient_73 : decode b_Arit_quotient 73 = .ok (.lload 7, 2) := by decide +kernel
theorem d_Arit_quotient_75 : decode b_Arit_quotient 75 = .ok (.lconst 0, 1) := by decide +kernel
theorem d_Arit_quotient_76 : decode b_Arit_quotient 76 = .ok (.lcmp, 1) := by decide +kernel
theorem d_Arit_quotient_77 : decode b_Arit_quotient 77 = .ok (.ifCond .ne 13, 3) := by decide +kernel
theorem d_Arit_quotient_80 : decode b_Arit_quotient 80 = .ok (.iload_n 3, 1) := by decide +kernel
theorem d_Arit_quotient_81 : decode b_Arit_quotient 81 = .ok (.ifCond .eq 7, 3) := by decide +kernel
theorem d_Arit_quotient_84 : decode b_Arit_quotient 84 = .ok (.iload_n 1, 1) := by decide +kernel
theorem d_Arit_quotient_85 : decode b_Arit_quotient 85 = .ok (.goto 4, 3) := by decide +kernel
theorem d_Arit_quotient_88 : decode b_Arit_quotient 88 = .ok (.iconst (-1), 1) := by decide +kernel
theorem d_Arit_quotient_89 : decode b_Arit_quotient 89 = .ok (.ireturn, 1) := by decide +kernel
theorem d_Arit_quotient_90 : decode b_Arit_quotient 90 = .ok (.iload_n 3, 1) := by decide +kernel
theorem d_Arit_quotient_91 : decode b_Arit_quotient 91 = .ok (.ifCond .eq 11, 3) := by decide +kernel
theorem d_Arit_quotient_94 : decode b_Arit_quotient 94 = .ok (.lload 5, 2) := by decide +kernel
theorem d_Arit_quotient_96 : decode b_Arit_quotient 96 = .ok (.lload 7, 2) := by decide +kernel
theorem d_Arit_quotient_98 : decode b_Arit_quotient 98 = .ok (.lrem, 1) := by decide +kernel
theorem d_Arit_quotient_99 : decode b_Arit_quotient 99 = .ok (.goto 8, 3) := by decide +kernel
theorem d_Arit_quotient_102 : decode b_Arit_quotient 102 = .ok (.lload 5, 2) := by decide +kernel
theorem d_Arit_quotient_104 : decode b_Arit_quotient 104 = .ok (.lload 7, 2) := by decide +kernel
theorem d_Arit_quotient_106 : decode b_Arit_quotient 106 = .ok (.ldiv, 1) := by decide +kernel
theorem d_Arit_quotient_107 : decode b_Arit_quotient 107 = .ok (.l2i, 1) := by decide +kernel
theorem d_Arit_quotient_108 : decode b_Arit_quotient 108 = .ok (.ireturn, 1) := by decide +kernel
theorem d_Arit_isBelow_0 : decode b_Arit_isBelow 0 = .ok (.iload_n 0, 1) := by decide +kernel
theorem d_Arit_isBelow_1 : decode b_Arit_isBelow 1 = .ok (.i2l, 1) := by decide +kernel
theorem d_Arit_isBelow_2 : decode b_Arit_isBelow 2 = .ok (.ldc2_w 17, 3) := by decide +kernel
theorem d_Arit_isBelow_5 : decode b_Arit_isBelow 5 = .ok (.land, 1) := by decide +kernel
theorem d_Arit_isBelow_6 : decode b_Arit_isBelow 6 = .ok (.iload_n 1, 1) := by decide +kernel
theorem d_Arit_isBelow_7 : decode b_Arit_isBelow 7 = .ok (.i2l, 1) := by decide +kernel
theorem d_Arit_isBelow_8 : decode b_Arit_isBelow 8 = .ok (.ldc2_w 17, 3) := by decide +kernel
theorem d_Arit_isBelow_11 : decode b_Arit_isBelow 11 = .ok (.land, 1) := by decide +kernel
theorem d_Arit_isBelow_12 : decode b_Arit_isBelow 12 = .ok (.lcmp, 1) := by decide +kernel
theorem d_Arit_isBelow_13 : decode b_Arit_isBelow 13 = .ok (.ifCond .ge 7, 3) := by decide +kernel
theorem d_Arit_isBelow_16 : decode b_Arit_isBelow 16 = .ok (.iconst 1, 1) := by decide +kernel
theorem d_Arit_isBelow_17 : decode b_Arit_isBelow 17 = .ok (.goto 4, 3) := by decide +kernel
theorem d_Arit_isBelow_20 : decode b_Arit_isBelow 20 = .ok (.iconst 0, 1) := by decide +kernel
theorem d_Arit_isBelow_21 : decode b_Arit_isBelow 21 = .ok (.ireturn, 1) := by decide +kernel
theorem d_Core_init_0 : decode b_Core_init 0 = .ok (.aload_n 0, 1) := by decide +kernel
theorem d_Core_init_1 : decode b_Core_init 1 = .ok (.invokespecial 3, 3) := by decide +kernel
theorem d_Core_init_4 : decode b_Core_init 4 = .ok (.aload_n 0, 1) := by decide +kernel
theorem d_Core_init_5 : decode b_Core_init 5 = .ok (.new 9, 3) := by decide +kernel
theorem d_Core_init_8 : decode b_Core_init 8 = .ok (.dup, 1) := by decide +kernel
theorem d_Core_init_9 : decode b_Core_init 9 = .ok (.invokespecial 11, 3) := by decide +kernel
theorem d_Core_init_12 : decode b_Core_init 12 = .ok (.putfield 12, 3) := by decide +kernel
theorem d_Core_init_15 : decode b_Core_init 15 = .ok (.aload_n 0, 1) := by decide +kernel
theorem d_Core_init_16 : decode b_Core_init 16 = .ok (.bipush 32, 2) := by decide +kernel
theorem d_Core_init_18 : decode b_Core_init 18 = .ok (.newarray .int, 2) := by decide +kernel
theorem d_Core_init_20 : decode b_Core_init 20 = .ok (.putfield 18, 3) := by decide +kernel
theorem d_Core_init_23 : decode b_Core_init 23 = .ok (.aload_n 0, 1) := by decide +kernel
theorem d_Core_init_24 : decode b_Core_init 24 = .ok (.aload_n 1, 1) := by decide +kernel
theorem d_Core_init_25 : decode b_Core_init 25 = .ok (.putfield 22, 3) := by decide +kernel
theorem d_Core_init_28 : decode b_Core_init 28 = .ok (.aload_n 0, 1) := by decide +kernel
theorem d_Core_init_29 : decode b_Core_init 29 = .ok (.aload_n 2, 1) := by decide +kernel
theorem d_Core_init_30 : decode b_Core_init 30 = .ok (.putfield 26, 3) := by decide +kernel
theorem d_Core_init_33 : decode b_Core_init 33 = .ok (.aload_n 0, 1) := by decide +kernel
theorem d_Core_init_34 : decode b_Core_init 34 = .ok (.aload_n 3, 1) := by decide +kernel
theorem d_Core_init_35 : decode b_Core_init 35 = .ok (.putfield 30, 3) := by decide +kernel
theorem d_Core_init_38 : decode b_Core_init 38 = .ok (.aload_n 0, 1) := by decide +kernel
theorem d_Core_init_39 : decode b_Core_init 39 = .ok (.aload 4, 2) := by decide +kernel
theorem d_Core_init_41 : decode b_Core_init 41 = .ok (.putfield 34, 3) := by decide +kernel
theorem d_Core_init_44 : decode b_Core_init 44 = .ok (.return_, 1) := by decide +kernel
theorem d_Core_putPc_0 : decode b_Core_putPc 0 = .ok (.iload_n 1, 1) := by decide +kernel
theorem d_Core_putPc_1 : decode b_Core_putPc 1 = .ok (.iconst 1, 1) := by decide +kernel
theorem d_Core_putPc_2 : decode b_Core_putPc 2 = .ok (.iand, 1) := by decide +kernel
theorem d_Core_putPc_3 : decode b_Core_putPc 3 = .ok (.ifCond .eq 5, 3) := by decide +kernel
theorem d_Core_putPc_6 : decode b_Core_putPc 6 = .ok (.iconst 0, 1) := by decide +kernel
theorem d_Core_putPc_7 : decode b_Core_putPc 7 = .ok (.ireturn, 1) := by decide +kernel
theorem d_Core_putPc_8 : decode b_Core_putPc 8 = .ok (.aload_n 0, 1) := by decide +kernel
theorem d_Core_putPc_9 : decode b_Core_putPc 9 = .ok (.iload_n 1, 1) := by decide +kernel
theorem d_Core_putPc_10 : decode b_Core_putPc 10 = .ok (.putfield 38, 3) := by decide +kernel
theorem d_Core_putPc_13 : decode b_Core_putPc 13 = .ok (.iconst 1, 1) := by decide +kernel
theorem d_Core_putPc_14 : decode b_Core_putPc 14 = .ok (.ireturn, 1) := by decide +kernel
theorem d_Core_register_0 : decode b_Core_register 0 = .ok (.iload_n 1, 1) := by decide +kernel
theorem d_Core_register_1 : decode b_Core_register 1 = .ok (.ifCond .le 18, 3) := by decide +kernel
theorem d_Core_register_4 : decode b_Core_register 4 = .ok (.iload_n 1, 1) := by decide +kernel
theorem d_Core_register_5 : decode b_Core_register 5 = .ok (.bipush 32, 2) := by decide +kernel
theorem d_Core_register_7 : decode b_Core_register 7 = .ok (.if_icmp .ge 12, 3) := by decide +kernel
theorem d_Core_register_10 : decode b_Core_register 10 = .ok (.aload_n 0, 1) := by decide +kernel
theorem d_Core_register_11 : decode b_Core_register 11 = .ok (.getfield 18, 3) := by decide +kernel
theorem d_Core_register_14 : decode b_Core_register 14 = .ok (.iload_n 1, 1) := by decide +kernel
theorem d_Core_register_15 : decode b_Core_register 15 = .ok (.iaload, 1) := by decide +kernel
theorem d_Core_register_16 : decode b_Core_register 16 = .ok (.goto 4, 3) := by decide +kernel
theorem d_Core_register_19 : decode b_Core_register 19 = .ok (.iconst 0, 1) := by decide +kernel
theorem d_Core_register_20 : decode b_Core_register 20 = .ok (.ireturn, 1) := by decide +kernel
theorem d_Core_putRegister_0 : decode b_Core_putRegister 0 = .ok (.iload_n 1, 1) := by decide +kernel
theorem d_Core_putRegister_1 : decode b_Core_putRegister 1 = .ok (.iconst 1, 1) := by decide +kernel
theorem d_Core_putRegister_2 : decode b_Core_putRegister 2 = .ok (.if_icmp .lt 9, 3) := by decide +kernel
theorem d_Core_putRegister_5 : decode b_Core_putRegister 5 = .ok (.iload_n 1, 1) := by decide +kernel
theorem d_Core_putRegister_6 : decode b_Core_putRegister 6 = .ok (.bipush 32, 2) := by decide +kernel
theorem d_Core_putRegister_8 : decode b_Core_putRegister 8 = .ok (.if_icmp .lt 5, 3) := by decide +kernel
theorem d_Core_putRegister_11 : decode b_Core_putRegister 11 = .ok (.iconst 0, 1) := by decide +kernel
theorem d_Core_putRegister_12 : decode b_Core_putRegister 12 = .ok (.ireturn, 1) := by decide +kernel
theorem d_Core_putRegister_13 : decode b_Core_putRegister 13 = .ok (.aload_n 0, 1) := by decide +kernel
theorem d_Core_putRegister_14 : decode b_Core_putRegister 14 = .ok (.getfield 18, 3) := by decide +kernel
theorem d_Core_putRegister_17 : decode b_Core_putRegister 17 = .ok (.iload_n 1, 1) := by decide +kernel
theorem d_Core_putRegister_18 : decode b_Core_putRegister 18 = .ok (.iload_n 2, 1) := by decide +kernel
theorem d_Core_putRegister_19 : decode b_Core_putRegister 19 = .ok (.iastore, 1) := by decide +kernel
theorem d_Core_putRegister_20 : decode b_Core_putRegister 20 = .ok (.iconst 1, 1) := by decide +kernel
theorem d_Core_putRegister_21 : decode b_Core_putRegister 21 = .ok (.ireturn, 1) := by decide +kernel
theorem d_Core_become_0 : decode b_Core_become 0 = .ok (.aload_n 0, 1) := by decide +kernel
theorem d_Core_become_1 : decode b_Core_become 1 = .ok (.iload_n 1, 1) := by decide +kernel
theorem d_Core_become_2 : decode b_Core_become 2 = .ok (.putfield 42, 3) := by decide +kernel
theorem d_Core_become_5 : decode b_Core_become 5 = .ok (.aload_n 0, 1) := by decide +kernel
theorem d_Core_become_6 : decode b_Core_become 6 = .ok (.iload_n 2, 1) := by decide +kernel
theorem d_Core_become_7 : decode b_Core_become 7 = .ok (.putfield 45, 3) := by decide +kernel
theorem d_Core_become_10 : decode b_Core_become 10 = .ok (.return_, 1) := by decide +kernel
theorem d_Core_hasEnded_0 : decode b_Core_hasEnded 0 = .ok (.aload_n 0, 1) := by decide +kernel
theorem d_Core_hasEnded_1 : decode b_Core_hasEnded 1 = .ok (.getfield 42, 3) := by decide +kernel
theorem d_Core_hasEnded_4 : decode b_Core_hasEnded 4 = .ok (.ifCond .eq 16, 3) := by decide +kernel
theorem d_Core_hasEnded_7 : decode b_Core_hasEnded 7 = .ok (.aload_n 0, 1) := by decide +kernel
theorem d_Core_hasEnded_8 : decode b_Core_hasEnded 8 = .ok (.getfield 42, 3) := by decide +kernel
theorem d_Core_hasEnded_11 : decode b_Core_hasEnded 11 = .ok (.bipush 9, 2) := by decide +kernel
theorem d_Core_hasEnded_13 : decode b_Core_hasEnded 13 = .ok (.if_icmp .eq 7, 3) := by decide +kernel
theorem d_Core_hasEnded_16 : decode b_Core_hasEnded 16 = .ok (.iconst 1, 1) := by decide +kernel
theorem d_Core_hasEnded_17 : decode b_Core_hasEnded 17 = .ok (.goto 4, 3) := by decide +kernel
theorem d_Core_hasEnded_20 : decode b_Core_hasEnded 20 = .ok (.iconst 0, 1) := by decide +kernel
theorem d_Core_hasEnded_21 : decode b_Core_hasEnded 21 = .ok (.ireturn, 1) := by decide +kernel
theorem d_Core_beginsUnit_0 : decode b_Core_beginsUnit 0 = .ok (.aload_n 0, 1) := by decide +kernel
theorem d_Core_beginsUnit_1 : decode b_Core_beginsUnit 1 = .ok (.getfield 26, 3) := by decide +kernel
theorem d_Core_beginsUnit_4 : decode b_Core_beginsUnit 4 = .ok (.getfield 48, 3) := by decide +kernel
theorem d_Core_beginsUnit_7 : decode b_Core_beginsUnit 7 = .ok (.ifCond .eq 17, 3) := by decide +kernel
theorem d_Core_beginsUnit_10 : decode b_Core_beginsUnit 10 = .ok (.aload_n 0, 1) := by decide +kernel
theorem d_Core_beginsUnit_11 : decode b_Core_beginsUnit 11 = .ok (.getfield 26, 3) := by decide +kernel
theorem d_Core_beginsUnit_14 : decode b_Core_beginsUnit 14 = .ok (.aload_n 0, 1) := by decide +kernel
theorem d_Core_beginsUnit_15 : decode b_Core_beginsUnit 15 = .ok (.getfield 38, 3) := by decide +kernel
theorem d_Core_beginsUnit_18 : decode b_Core_beginsUnit 18 = .ok (.invokevirtual 54, 3) := by decide +kernel
theorem d_Core_beginsUnit_21 : decode b_Core_beginsUnit 21 = .ok (.ifCond .eq 7, 3) := by decide +kernel
theorem d_Core_beginsUnit_24 : decode b_Core_beginsUnit 24 = .ok (.iconst 1, 1) := by decide +kernel
theorem d_Core_beginsUnit_25 : decode b_Core_beginsUnit 25 = .ok (.goto 4, 3) := by decide +kernel
theorem d_Core_beginsUnit_28 : decode b_Core_beginsUnit 28 = .ok (.iconst 0, 1) := by decide +kernel
theorem d_Core_beginsUnit_29 : decode b_Core_beginsUnit 29 = .ok (.ireturn, 1) := by decide +kernel
theorem d_Core_advance_0 : decode b_Core_advance 0 = .ok (.aload_n 0, 1) := by decide +kernel
theorem d_Core_advance_1 : decode b_Core_advance 1 = .ok (.invokevirtual 58, 3) := by decide +kernel
theorem d_Core_advance_4 : decode b_Core_advance 4 = .ok (.ifCond .eq 10, 3) := by decide +kernel
theorem d_Core_advance_7 : decode b_Core_advance 7 = .ok (.aload_n 0, 1) := by decide +kernel
theorem d_Core_advance_8 : decode b_Core_advance 8 = .ok (.invokevirtual 62, 3) := by decide +kernel
theorem d_Core_advance_11 : decode b_Core_advance 11 = .ok (.ifCond .eq 4, 3) := by decide +kernel
theorem d_Core_advance_14 : decode b_Core_advance 14 = .ok (.return_, 1) := by decide +kernel
theorem d_Core_advance_15 : decode b_Core_advance 15 = .ok (.aload_n 0, 1) := by decide +kernel
theorem d_Core_advance_16 : decode b_Core_advance 16 = .ok (.invokevirtual 65, 3) := by decide +kernel
theorem d_Core_advance_19 : decode b_Core_advance 19 = .ok (.istore_n 1, 1) := by decide +kernel
theorem d_Core_advance_20 : decode b_Core_advance 20 = .ok (.aload_n 0, 1) := by decide +kernel
theorem d_Core_advance_21 : decode b_Core_advance 21 = .ok (.aload_n 0, 1) := by decide +kernel
theorem d_Core_advance_22 : decode b_Core_advance 22 = .ok (.getfield 34, 3) := by decide +kernel
theorem d_Core_advance_25 : decode b_Core_advance 25 = .ok (.invokevirtual 68, 3) := by decide +kernel
theorem d_Core_advance_28 : decode b_Core_advance 28 = .ok (.invokevirtual 74, 3) := by decide +kernel
theorem d_Core_advance_31 : decode b_Core_advance 31 = .ok (.aload_n 0, 1) := by decide +kernel
theorem d_Core_advance_32 : decode b_Core_advance 32 = .ok (.iconst 0, 1) := by decide +kernel
theorem d_Core_advance_33 : decode b_Core_advance 33 = .ok (.iconst 0, 1) := by decide +kernel
theorem d_Core_advance_34 : decode b_Core_advance 34 = .ok (.invokevirtual 78, 3) := by decide +kernel
theorem d_Core_advance_37 : decode b_Core_advance 37 = .ok (.aload_n 0, 1) := by decide +kernel
theorem d_Core_advance_38 : decode b_Core_advance 38 = .ok (.invokevirtual 82, 3) := by decide +kernel
theorem d_Core_advance_41 : decode b_Core_advance 41 = .ok (.aload_n 0, 1) := by decide +kernel
theorem d_Core_advance_42 : decode b_Core_advance 42 = .ok (.dup, 1) := by decide +kernel
theorem d_Core_advance_43 : decode b_Core_advance 43 = .ok (.getfield 85, 3) := by decide +kernel
theorem d_Core_advance_46 : decode b_Core_advance 46 = .ok (.iconst 1, 1) := by decide +kernel
theorem d_Core_advance_47 : decode b_Core_advance 47 = .ok (.iadd, 1) := by decide +kernel
theorem d_Core_advance_48 : decode b_Core_advance 48 = .ok (.putfield 85, 3) := by decide +kernel
theorem d_Core_advance_51 : decode b_Core_advance 51 = .ok (.iload_n 1, 1) := by decide +kernel
theorem d_Core_advance_52 : decode b_Core_advance 52 = .ok (.ifCond .eq 13, 3) := by decide +kernel
theorem d_Core_advance_55 : decode b_Core_advance 55 = .ok (.aload_n 0, 1) := by decide +kernel
theorem d_Core_advance_56 : decode b_Core_advance 56 = .ok (.dup, 1) := by decide +kernel
theorem d_Core_advance_57 : decode b_Core_advance 57 = .ok (.getfield 88, 3) := by decide +kernel
theorem d_Core_advance_60 : decode b_Core_advance 60 = .ok (.iconst 1, 1) := by decide +kernel
theorem d_Core_advance_61 : decode b_Core_advance 61 = .ok (.iadd, 1) := by decide +kernel
theorem d_Core_advance_62 : decode b_Core_advance 62 = .ok (.putfield 88, 3) := by decide +kernel
theorem d_Core_advance_65 : decode b_Core_advance 65 = .ok (.return_, 1) := by decide +kernel
theorem d_Core_undo_0 : decode b_Core_undo 0 = .ok (.aload_n 0, 1) := by decide +kernel
theorem d_Core_undo_1 : decode b_Core_undo 1 = .ok (.aload_n 1, 1) := by decide +kernel
theorem d_Core_undo_2 : decode b_Core_undo 2 = .ok (.getfield 91, 3) := by decide +kernel
theorem d_Core_undo_5 : decode b_Core_undo 5 = .ok (.putfield 38, 3) := by decide +kernel
theorem d_Core_undo_8 : decode b_Core_undo 8 = .ok (.aload_n 0, 1) := by decide +kernel
theorem d_Core_undo_9 : decode b_Core_undo 9 = .ok (.aload_n 1, 1) := by decide +kernel
theorem d_Core_undo_10 : decode b_Core_undo 10 = .ok (.getfield 94, 3) := by decide +kernel
theorem d_Core_undo_13 : decode b_Core_undo 13 = .ok (.aload_n 1, 1) := by decide +kernel
theorem d_Core_undo_14 : decode b_Core_undo 14 = .ok (.getfield 95, 3) := by decide +kernel
theorem d_Core_undo_17 : decode b_Core_undo 17 = .ok (.invokevirtual 78, 3) := by decide +kernel
theorem d_Core_undo_20 : decode b_Core_undo 20 = .ok (.aload_n 0, 1) := by decide +kernel
theorem d_Core_undo_21 : decode b_Core_undo 21 = .ok (.aload_n 1, 1) := by decide +kernel
theorem d_Core_undo_22 : decode b_Core_undo 22 = .ok (.getfield 96, 3) := by decide +kernel
theorem d_Core_undo_25 : decode b_Core_undo 25 = .ok (.putfield 99, 3) := by decide +kernel
theorem d_Core_undo_28 : decode b_Core_undo 28 = .ok (.aload_n 0, 1) := by decide +kernel
theorem d_Core_undo_29 : decode b_Core_undo 29 = .ok (.aload_n 1, 1) := by decide +kernel
theorem d_Core_undo_30 : decode b_Core_undo 30 = .ok (.getfield 100, 3) := by decide +kernel
theorem d_Core_undo_33 : decode b_Core_undo 33 = .ok (.putfield 85, 3) := by decide +kernel
theorem d_Core_undo_36 : decode b_Core_undo 36 = .ok (.aload_n 0, 1) := by decide +kernel
theorem d_Core_undo_37 : decode b_Core_undo 37 = .ok (.aload_n 1, 1) := by decide +kernel
theorem d_Core_undo_38 : decode b_Core_undo 38 = .ok (.getfield 101, 3) := by decide +kernel
theorem d_Core_undo_41 : decode b_Core_undo 41 = .ok (.putfield 88, 3) := by decide +kernel
theorem d_Core_undo_44 : decode b_Core_undo 44 = .ok (.aload_n 0, 1) := by decide +kernel
theorem d_Core_undo_45 : decode b_Core_undo 45 = .ok (.getfield 30, 3) := by decide +kernel
theorem d_Core_undo_48 : decode b_Core_undo 48 = .ok (.aload_n 1, 1) := by decide +kernel
theorem d_Core_undo_49 : decode b_Core_undo 49 = .ok (.getfield 102, 3) := by decide +kernel
theorem d_Core_undo_52 : decode b_Core_undo 52 = .ok (.putfield 105, 3) := by decide +kernel
theorem d_Core_undo_55 : decode b_Core_undo 55 = .ok (.aload_n 0, 1) := by decide +kernel
theorem d_Core_undo_56 : decode b_Core_undo 56 = .ok (.getfield 30, 3) := by decide +kernel
theorem d_Core_undo_59 : decode b_Core_undo 59 = .ok (.aload_n 1, 1) := by decide +kernel
theorem d_Core_undo_60 : decode b_Core_undo 60 = .ok (.getfield 108, 3) := by decide +kernel
theorem d_Core_undo_63 : decode b_Core_undo 63 = .ok (.putfield 111, 3) := by decide +kernel
theorem d_Core_undo_66 : decode b_Core_undo 66 = .ok (.aload_n 0, 1) := by decide +kernel
theorem d_Core_undo_67 : decode b_Core_undo 67 = .ok (.aload_n 1, 1) := by decide +kernel
theorem d_Core_undo_68 : decode b_Core_undo 68 = .ok (.getfield 112, 3) := by decide +kernel
theorem d_Core_undo_71 : decode b_Core_undo 71 = .ok (.aload_n 1, 1) := by decide +kernel
theorem d_Core_undo_72 : decode b_Core_undo 72 = .ok (.getfield 115, 3) := by decide +kernel
theorem d_Core_undo_75 : decode b_Core_undo 75 = .ok (.invokevirtual 118, 3) := by decide +kernel
theorem d_Core_undo_78 : decode b_Core_undo 78 = .ok (.pop, 1) := by decide +kernel
theorem d_Core_undo_79 : decode b_Core_undo 79 = .ok (.aload_n 0, 1) := by decide +kernel
theorem d_Core_undo_80 : decode b_Core_undo 80 = .ok (.getfield 22, 3) := by decide +kernel
theorem d_Core_undo_83 : decode b_Core_undo 83 = .ok (.aload_n 1, 1) := by decide +kernel
theorem d_Core_undo_84 : decode b_Core_undo 84 = .ok (.getfield 122, 3) := by decide +kernel
theorem d_Core_undo_87 : decode b_Core_undo 87 = .ok (.aload_n 1, 1) := by decide +kernel
theorem d_Core_undo_88 : decode b_Core_undo 88 = .ok (.getfield 125, 3) := by decide +kernel
theorem d_Core_undo_91 : decode b_Core_undo 91 = .ok (.invokevirtual 128, 3) := by decide +kernel
theorem d_Core_undo_94 : decode b_Core_undo 94 = .ok (.return_, 1) := by decide +kernel
theorem d_Core_remember_0 : decode b_Core_remember 0 = .ok (.aload_n 1, 1) := by decide +kernel
theorem d_Core_remember_1 : decode b_Core_remember 1 = .ok (.aload_n 0, 1) := by decide +kernel
theorem d_Core_remember_2 : decode b_Core_remember 2 = .ok (.getfield 38, 3) := by decide +kernel
theorem d_Core_remember_5 : decode b_Core_remember 5 = .ok (.putfield 91, 3) := by decide +kernel
theorem d_Core_remember_8 : decode b_Core_remember 8 = .ok (.aload_n 1, 1) := by decide +kernel
theorem d_Core_remember_9 : decode b_Core_remember 9 = .ok (.aload_n 0, 1) := by decide +kernel
theorem d_Core_remember_10 : decode b_Core_remember 10 = .ok (.getfield 42, 3) := by decide +kernel
theorem d_Core_remember_13 : decode b_Core_remember 13 = .ok (.putfield 94, 3) := by decide +kernel
theorem d_Core_remember_16 : decode b_Core_remember 16 = .ok (.aload_n 1, 1) := by decide +kernel
theorem d_Core_remember_17 : decode b_Core_remember 17 = .ok (.aload_n 0, 1) := by decide +kernel
theorem d_Core_remember_18 : decode b_Core_remember 18 = .ok (.getfield 45, 3) := by decide +kernel
theorem d_Core_remember_21 : decode b_Core_remember 21 = .ok (.putfield 95, 3) := by decide +kernel
theorem d_Core_remember_24 : decode b_Core_remember 24 = .ok (.aload_n 1, 1) := by decide +kernel
theorem d_Core_remember_25 : decode b_Core_remember 25 = .ok (.aload_n 0, 1) := by decide +kernel
theorem d_Core_remember_26 : decode b_Core_remember 26 = .ok (.getfield 99, 3) := by decide +kernel
theorem d_Core_remember_29 : decode b_Core_remember 29 = .ok (.putfield 96, 3) := by decide +kernel
theorem d_Core_remember_32 : decode b_Core_remember 32 = .ok (.aload_n 1, 1) := by decide +kernel
theorem d_Core_remember_33 : decode b_Core_remember 33 = .ok (.aload_n 0, 1) := by decide +kernel
theorem d_Core_remember_34 : decode b_Core_remember 34 = .ok (.getfield 85, 3) := by decide +kernel
theorem d_Core_remember_37 : decode b_Core_remember 37 = .ok (.putfield 100, 3) := by decide +kernel
theorem d_Core_remember_40 : decode b_Core_remember 40 = .ok (.aload_n 1, 1) := by decide +kernel
theorem d_Core_remember_41 : decode b_Core_remember 41 = .ok (.aload_n 0, 1) := by decide +kernel
theorem d_Core_remember_42 : decode b_Core_remember 42 = .ok (.getfield 88, 3) := by decide +kernel
theorem d_Core_remember_45 : decode b_Core_remember 45 = .ok (.putfield 101, 3) := by decide +kernel
theorem d_Core_remember_48 : decode b_Core_remember 48 = .ok (.aload_n 1, 1) := by decide +kernel
theorem d_Core_remember_49 : decode b_Core_remember 49 = .ok (.aload_n 0, 1) := by decide +kernel
theorem d_Core_remember_50 : decode b_Core_remember 50 = .ok (.getfield 30, 3) := by decide +kernel
theorem d_Core_remember_53 : decode b_Core_remember 53 = .ok (.getfield 105, 3) := by decide +kernel
theorem d_Core_remember_56 : decode b_Core_remember 56 = .ok (.putfield 102, 3) := by decide +kernel
theorem d_Core_remember_59 : decode b_Core_remember 59 = .ok (.aload_n 1, 1) := by decide +kernel
theorem d_Core_remember_60 : decode b_Core_remember 60 = .ok (.aload_n 0, 1) := by decide +kernel
theorem d_Core_remember_61 : decode b_Core_remember 61 = .ok (.getfield 30, 3) := by decide +kernel
theorem d_Core_remember_64 : decode b_Core_remember 64 = .ok (.getfield 111, 3) := by decide +kernel
theorem d_Core_remember_67 : decode b_Core_remember 67 = .ok (.putfield 108, 3) := by decide +kernel
theorem d_Core_remember_70 : decode b_Core_remember 70 = .ok (.aload_n 1, 1) := by decide +kernel
theorem d_Core_remember_71 : decode b_Core_remember 71 = .ok (.aload_n 0, 1) := by decide +kernel
theorem d_Core_remember_72 : decode b_Core_remember 72 = .ok (.getfield 12, 3) := by decide +kernel
theorem d_Core_remember_75 : decode b_Core_remember 75 = .ok (.getfield 133, 3) := by decide +kernel
theorem d_Core_remember_78 : decode b_Core_remember 78 = .ok (.bipush 46, 2) := by decide +kernel
theorem d_Core_remember_80 : decode b_Core_remember 80 = .ok (.if_icmp .ne 8, 3) := by decide +kernel
theorem d_Core_remember_83 : decode b_Core_remember 83 = .ok (.bipush 10, 2) := by decide +kernel
theorem d_Core_remember_85 : decode b_Core_remember 85 = .ok (.goto 10, 3) := by decide +kernel
theorem d_Core_remember_88 : decode b_Core_remember 88 = .ok (.aload_n 0, 1) := by decide +kernel
theorem d_Core_remember_89 : decode b_Core_remember 89 = .ok (.getfield 12, 3) := by decide +kernel
theorem d_Core_remember_92 : decode b_Core_remember 92 = .ok (.getfield 136, 3) := by decide +kernel
theorem d_Core_remember_95 : decode b_Core_remember 95 = .ok (.putfield 112, 3) := by decide +kernel
theorem d_Core_remember_98 : decode b_Core_remember 98 = .ok (.aload_n 1, 1) := by decide +kernel
theorem d_Core_remember_99 : decode b_Core_remember 99 = .ok (.aload_n 0, 1) := by decide +kernel
theorem d_Core_remember_100 : decode b_Core_remember 100 = .ok (.aload_n 1, 1) := by decide +kernel
theorem d_Core_remember_101 : decode b_Core_remember 101 = .ok (.getfield 112, 3) := by decide +kernel
theorem d_Core_remember_104 : decode b_Core_remember 104 = .ok (.invokevirtual 139, 3) := by decide +kernel
theorem d_Core_remember_107 : decode b_Core_remember 107 = .ok (.putfield 115, 3) := by decide +kernel
theorem d_Core_remember_110 : decode b_Core_remember 110 = .ok (.aload_n 1, 1) := by decide +kernel
theorem d_Core_remember_111 : decode b_Core_remember 111 = .ok (.aload_n 0, 1) := by decide +kernel
theorem d_Core_remember_112 : decode b_Core_remember 112 = .ok (.getfield 12, 3) := by decide +kernel
theorem d_Core_remember_115 : decode b_Core_remember 115 = .ok (.invokevirtual 142, 3) := by decide +kernel
theorem d_Core_remember_118 : decode b_Core_remember 118 = .ok (.ifCond .eq 10, 3) := by decide +kernel
theorem d_Core_remember_121 : decode b_Core_remember 121 = .ok (.aload_n 0, 1) := by decide +kernel
theorem d_Core_remember_122 : decode b_Core_remember 122 = .ok (.invokevirtual 145, 3) := by decide +kernel
theorem d_Core_remember_125 : decode b_Core_remember 125 = .ok (.goto 4, 3) := by decide +kernel
theorem d_Core_remember_128 : decode b_Core_remember 128 = .ok (.iconst (-1), 1) := by decide +kernel
theorem d_Core_remember_129 : decode b_Core_remember 129 = .ok (.putfield 122, 3) := by decide +kernel
theorem d_Core_remember_132 : decode b_Core_remember 132 = .ok (.aload_n 1, 1) := by decide +kernel
theorem d_Core_remember_133 : decode b_Core_remember 133 = .ok (.aload_n 0, 1) := by decide +kernel
theorem d_Core_remember_134 : decode b_Core_remember 134 = .ok (.getfield 22, 3) := by decide +kernel
theorem d_Core_remember_137 : decode b_Core_remember 137 = .ok (.aload_n 1, 1) := by decide +kernel
theorem d_Core_remember_138 : decode b_Core_remember 138 = .ok (.getfield 122, 3) := by decide +kernel
theorem d_Core_remember_141 : decode b_Core_remember 141 = .ok (.invokevirtual 149, 3) := by decide +kernel
theorem d_Core_remember_144 : decode b_Core_remember 144 = .ok (.putfield 125, 3) := by decide +kernel
theorem d_Core_remember_147 : decode b_Core_remember 147 = .ok (.return_, 1) := by decide +kernel
theorem d_Core_fetch_0 : decode b_Core_fetch 0 = .ok (.aload_n 0, 1) := by decide +kernel
theorem d_Core_fetch_1 : decode b_Core_fetch 1 = .ok (.aload_n 0, 1) := by decide +kernel
theorem d_Core_fetch_2 : decode b_Core_fetch 2 = .ok (.getfield 38, 3) := by decide +kernel
theorem d_Core_fetch_5 : decode b_Core_fetch 5 = .ok (.invokevirtual 152, 3) := by decide +kernel
theorem d_Core_fetch_8 : decode b_Core_fetch 8 = .ok (.ifCond .ne 5, 3) := by decide +kernel
theorem d_Core_fetch_11 : decode b_Core_fetch 11 = .ok (.iconst 0, 1) := by decide +kernel
theorem d_Core_fetch_12 : decode b_Core_fetch 12 = .ok (.ireturn, 1) := by decide +kernel
theorem d_Core_fetch_13 : decode b_Core_fetch 13 = .ok (.aload_n 0, 1) := by decide +kernel
theorem d_Core_fetch_14 : decode b_Core_fetch 14 = .ok (.getfield 22, 3) := by decide +kernel
theorem d_Core_fetch_17 : decode b_Core_fetch 17 = .ok (.aload_n 0, 1) := by decide +kernel
theorem d_Core_fetch_18 : decode b_Core_fetch 18 = .ok (.getfield 38, 3) := by decide +kernel
theorem d_Core_fetch_21 : decode b_Core_fetch 21 = .ok (.iconst 2, 1) := by decide +kernel
theorem d_Core_fetch_22 : decode b_Core_fetch 22 = .ok (.invokevirtual 155, 3) := by decide +kernel
theorem d_Core_fetch_25 : decode b_Core_fetch 25 = .ok (.istore_n 1, 1) := by decide +kernel
theorem d_Core_fetch_26 : decode b_Core_fetch 26 = .ok (.iload_n 1, 1) := by decide +kernel
theorem d_Core_fetch_27 : decode b_Core_fetch 27 = .ok (.invokestatic 159, 3) := by decide +kernel
theorem d_Core_fetch_30 : decode b_Core_fetch 30 = .ok (.ifCond .ne 14, 3) := by decide +kernel
theorem d_Core_fetch_33 : decode b_Core_fetch 33 = .ok (.iload_n 1, 1) := by decide +kernel
theorem d_Core_fetch_34 : decode b_Core_fetch 34 = .ok (.aload_n 0, 1) := by decide +kernel
theorem d_Core_fetch_35 : decode b_Core_fetch 35 = .ok (.getfield 12, 3) := by decide +kernel
theorem d_Core_fetch_38 : decode b_Core_fetch 38 = .ok (.invokestatic 162, 3) := by decide +kernel
theorem d_Core_fetch_41 : decode b_Core_fetch 41 = .ok (.goto 47, 3) := by decide +kernel
theorem d_Core_fetch_44 : decode b_Core_fetch 44 = .ok (.aload_n 0, 1) := by decide +kernel
theorem d_Core_fetch_45 : decode b_Core_fetch 45 = .ok (.aload_n 0, 1) := by decide +kernel
theorem d_Core_fetch_46 : decode b_Core_fetch 46 = .ok (.getfield 38, 3) := by decide +kernel
theorem d_Core_fetch_49 : decode b_Core_fetch 49 = .ok (.iconst 2, 1) := by decide +kernel
theorem d_Core_fetch_50 : decode b_Core_fetch 50 = .ok (.iadd, 1) := by decide +kernel
theorem d_Core_fetch_51 : decode b_Core_fetch 51 = .ok (.invokevirtual 152, 3) := by decide +kernel
theorem d_Core_fetch_54 : decode b_Core_fetch 54 = .ok (.ifCond .eq 32, 3) := by decide +kernel
theorem d_Core_fetch_57 : decode b_Core_fetch 57 = .ok (.iload_n 1, 1) := by decide +kernel
theorem d_Core_fetch_58 : decode b_Core_fetch 58 = .ok (.aload_n 0, 1) := by decide +kernel
theorem d_Core_fetch_59 : decode b_Core_fetch 59 = .ok (.getfield 22, 3) := by decide +kernel
theorem d_Core_fetch_62 : decode b_Core_fetch 62 = .ok (.aload_n 0, 1) := by decide +kernel
theorem d_Core_fetch_63 : decode b_Core_fetch 63 = .ok (.getfield 38, 3) := by decide +kernel
theorem d_Core_fetch_66 : decode b_Core_fetch 66 = .ok (.iconst 2, 1) := by decide +kernel
theorem d_Core_fetch_67 : decode b_Core_fetch 67 = .ok (.iadd, 1) := by decide +kernel
theorem d_Core_fetch_68 : decode b_Core_fetch 68 = .ok (.iconst 2, 1) := by decide +kernel
theorem d_Core_fetch_69 : decode b_Core_fetch 69 = .ok (.invokevirtual 155, 3) := by decide +kernel
theorem d_Core_fetch_72 : decode b_Core_fetch 72 = .ok (.bipush 16, 2) := by decide +kernel
theorem d_Core_fetch_74 : decode b_Core_fetch 74 = .ok (.ishl, 1) := by decide +kernel
theorem d_Core_fetch_75 : decode b_Core_fetch 75 = .ok (.ior, 1) := by decide +kernel
theorem d_Core_fetch_76 : decode b_Core_fetch 76 = .ok (.aload_n 0, 1) := by decide +kernel
theorem d_Core_fetch_77 : decode b_Core_fetch 77 = .ok (.getfield 12, 3) := by decide +kernel
theorem d_Core_fetch_80 : decode b_Core_fetch 80 = .ok (.invokestatic 168, 3) := by decide +kernel
theorem d_Core_fetch_83 : decode b_Core_fetch 83 = .ok (.goto 5, 3) := by decide +kernel
theorem d_Core_fetch_86 : decode b_Core_fetch 86 = .ok (.iconst 0, 1) := by decide +kernel
theorem d_Core_fetch_87 : decode b_Core_fetch 87 = .ok (.ireturn, 1) := by decide +kernel
theorem d_Core_fetch_88 : decode b_Core_fetch 88 = .ok (.aload_n 0, 1) := by decide +kernel
theorem d_Core_fetch_89 : decode b_Core_fetch 89 = .ok (.getfield 12, 3) := by decide +kernel
theorem d_Core_fetch_92 : decode b_Core_fetch 92 = .ok (.getfield 133, 3) := by decide +kernel
theorem d_Core_fetch_95 : decode b_Core_fetch 95 = .ok (.iconst (-1), 1) := by decide +kernel
theorem d_Core_fetch_96 : decode b_Core_fetch 96 = .ok (.if_icmp .ne 12, 3) := by decide +kernel
theorem d_Core_fetch_99 : decode b_Core_fetch 99 = .ok (.aload_n 0, 1) := by decide +kernel
theorem d_Core_fetch_100 : decode b_Core_fetch 100 = .ok (.iconst 2, 1) := by decide +kernel
theorem d_Core_fetch_101 : decode b_Core_fetch 101 = .ok (.aload_n 0, 1) := by decide +kernel
theorem d_Core_fetch_102 : decode b_Core_fetch 102 = .ok (.getfield 38, 3) := by decide +kernel
theorem d_Core_fetch_105 : decode b_Core_fetch 105 = .ok (.invokevirtual 78, 3) := by decide +kernel
theorem d_Core_fetch_108 : decode b_Core_fetch 108 = .ok (.aload_n 0, 1) := by decide +kernel
theorem d_Core_fetch_109 : decode b_Core_fetch 109 = .ok (.getfield 12, 3) := by decide +kernel
theorem d_Core_fetch_112 : decode b_Core_fetch 112 = .ok (.getfield 133, 3) := by decide +kernel
theorem d_Core_fetch_115 : decode b_Core_fetch 115 = .ok (.iconst (-1), 1) := by decide +kernel
theorem d_Core_fetch_116 : decode b_Core_fetch 116 = .ok (.if_icmp .eq 7, 3) := by decide +kernel
theorem d_Core_fetch_119 : decode b_Core_fetch 119 = .ok (.iconst 1, 1) := by decide +kernel
theorem d_Core_fetch_120 : decode b_Core_fetch 120 = .ok (.goto 4, 3) := by decide +kernel
theorem d_Core_fetch_123 : decode b_Core_fetch 123 = .ok (.iconst 0, 1) := by decide +kernel
theorem d_Core_fetch_124 : decode b_Core_fetch 124 = .ok (.ireturn, 1) := by decide +kernel
theorem d_Core_mayExecuteHalf_0 : decode b_Core_mayExecuteHalf 0 = .ok (.aload_n 0, 1) := by decide +kernel
theorem d_Core_mayExecuteHalf_1 : decode b_Core_mayExecuteHalf 1 = .ok (.getfield 26, 3) := by decide +kernel
theorem d_Core_mayExecuteHalf_4 : decode b_Core_mayExecuteHalf 4 = .ok (.iconst 4, 1) := by decide +kernel
theorem d_Core_mayExecuteHalf_5 : decode b_Core_mayExecuteHalf 5 = .ok (.iload_n 1, 1) := by decide +kernel
theorem d_Core_mayExecuteHalf_6 : decode b_Core_mayExecuteHalf 6 = .ok (.iconst 2, 1) := by decide +kernel
theorem d_Core_mayExecuteHalf_7 : decode b_Core_mayExecuteHalf 7 = .ok (.invokevirtual 171, 3) := by decide +kernel
theorem d_Core_mayExecuteHalf_10 : decode b_Core_mayExecuteHalf 10 = .ok (.istore_n 2, 1) := by decide +kernel
theorem d_Core_mayExecuteHalf_11 : decode b_Core_mayExecuteHalf 11 = .ok (.iload_n 2, 1) := by decide +kernel
theorem d_Core_mayExecuteHalf_12 : decode b_Core_mayExecuteHalf 12 = .ok (.iconst (-1), 1) := by decide +kernel
theorem d_Core_mayExecuteHalf_13 : decode b_Core_mayExecuteHalf 13 = .ok (.if_icmp .eq 11, 3) := by decide +kernel
theorem d_Core_mayExecuteHalf_16 : decode b_Core_mayExecuteHalf 16 = .ok (.aload_n 0, 1) := by decide +kernel
theorem d_Core_mayExecuteHalf_17 : decode b_Core_mayExecuteHalf 17 = .ok (.iconst 1, 1) := by decide +kernel
theorem d_Core_mayExecuteHalf_18 : decode b_Core_mayExecuteHalf 18 = .ok (.iload_n 1, 1) := by decide +kernel
theorem d_Core_mayExecuteHalf_19 : decode b_Core_mayExecuteHalf 19 = .ok (.iload_n 2, 1) := by decide +kernel
theorem d_Core_mayExecuteHalf_20 : decode b_Core_mayExecuteHalf 20 = .ok (.iadd, 1) := by decide +kernel
theorem d_Core_mayExecuteHalf_21 : decode b_Core_mayExecuteHalf 21 = .ok (.invokevirtual 78, 3) := by decide +kernel
theorem d_Core_mayExecuteHalf_24 : decode b_Core_mayExecuteHalf 24 = .ok (.iload_n 2, 1) := by decide +kernel
theorem d_Core_mayExecuteHalf_25 : decode b_Core_mayExecuteHalf 25 = .ok (.iconst (-1), 1) := by decide +kernel
theorem d_Core_mayExecuteHalf_26 : decode b_Core_mayExecuteHalf 26 = .ok (.if_icmp .ne 7, 3) := by decide +kernel
theorem d_Core_mayExecuteHalf_29 : decode b_Core_mayExecuteHalf 29 = .ok (.iconst 1, 1) := by decide +kernel
theorem d_Core_mayExecuteHalf_30 : decode b_Core_mayExecuteHalf 30 = .ok (.goto 4, 3) := by decide +kernel
theorem d_Core_mayExecuteHalf_33 : decode b_Core_mayExecuteHalf 33 = .ok (.iconst 0, 1) := by decide +kernel
theorem d_Core_mayExecuteHalf_34 : decode b_Core_mayExecuteHalf 34 = .ok (.ireturn, 1) := by decide +kernel
theorem d_Core_failsInMemory_0 : decode b_Core_failsInMemory 0 = .ok (.aload_n 0, 1) := by decide +kernel
theorem d_Core_failsInMemory_1 : decode b_Core_failsInMemory 1 = .ok (.getfield 12, 3) := by decide +kernel
theorem d_Core_failsInMemory_4 : decode b_Core_failsInMemory 4 = .ok (.invokevirtual 175, 3) := by decide +kernel
theorem d_Core_failsInMemory_7 : decode b_Core_failsInMemory 7 = .ok (.istore_n 1, 1) := by decide +kernel
theorem d_Core_failsInMemory_8 : decode b_Core_failsInMemory 8 = .ok (.iload_n 1, 1) := by decide +kernel
theorem d_Core_failsInMemory_9 : decode b_Core_failsInMemory 9 = .ok (.ifCond .ne 5, 3) := by decide +kernel
theorem d_Core_failsInMemory_12 : decode b_Core_failsInMemory 12 = .ok (.iconst 0, 1) := by decide +kernel
theorem d_Core_failsInMemory_13 : decode b_Core_failsInMemory 13 = .ok (.ireturn, 1) := by decide +kernel
theorem d_Core_failsInMemory_14 : decode b_Core_failsInMemory 14 = .ok (.aload_n 0, 1) := by decide +kernel
theorem d_Core_failsInMemory_15 : decode b_Core_failsInMemory 15 = .ok (.invokevirtual 145, 3) := by decide +kernel
theorem d_Core_failsInMemory_18 : decode b_Core_failsInMemory 18 = .ok (.istore_n 2, 1) := by decide +kernel
theorem d_Core_failsInMemory_19 : decode b_Core_failsInMemory 19 = .ok (.aload_n 0, 1) := by decide +kernel
theorem d_Core_failsInMemory_20 : decode b_Core_failsInMemory 20 = .ok (.getfield 12, 3) := by decide +kernel
theorem d_Core_failsInMemory_23 : decode b_Core_failsInMemory 23 = .ok (.invokevirtual 142, 3) := by decide +kernel
theorem d_Core_failsInMemory_26 : decode b_Core_failsInMemory 26 = .ok (.ifCond .eq 7, 3) := by decide +kernel
theorem d_Core_failsInMemory_29 : decode b_Core_failsInMemory 29 = .ok (.iconst 2, 1) := by decide +kernel
theorem d_Core_failsInMemory_30 : decode b_Core_failsInMemory 30 = .ok (.goto 4, 3) := by decide +kernel
theorem d_Core_failsInMemory_33 : decode b_Core_failsInMemory 33 = .ok (.iconst 1, 1) := by decide +kernel
theorem d_Core_failsInMemory_34 : decode b_Core_failsInMemory 34 = .ok (.istore_n 3, 1) := by decide +kernel
theorem d_Core_failsInMemory_35 : decode b_Core_failsInMemory 35 = .ok (.iload_n 2, 1) := by decide +kernel
theorem d_Core_failsInMemory_36 : decode b_Core_failsInMemory 36 = .ok (.iload_n 1, 1) := by decide +kernel
theorem d_Core_failsInMemory_37 : decode b_Core_failsInMemory 37 = .ok (.iconst 1, 1) := by decide +kernel
theorem d_Core_failsInMemory_38 : decode b_Core_failsInMemory 38 = .ok (.isub, 1) := by decide +kernel
theorem d_Core_failsInMemory_39 : decode b_Core_failsInMemory 39 = .ok (.iand, 1) := by decide +kernel
theorem d_Core_failsInMemory_40 : decode b_Core_failsInMemory 40 = .ok (.ifCond .ne 19, 3) := by decide +kernel
theorem d_Core_failsInMemory_43 : decode b_Core_failsInMemory 43 = .ok (.aload_n 0, 1) := by decide +kernel
theorem d_Core_failsInMemory_44 : decode b_Core_failsInMemory 44 = .ok (.getfield 26, 3) := by decide +kernel
theorem d_Core_failsInMemory_47 : decode b_Core_failsInMemory 47 = .ok (.iload_n 3, 1) := by decide +kernel
theorem d_Core_failsInMemory_48 : decode b_Core_failsInMemory 48 = .ok (.iload_n 2, 1) := by decide +kernel
theorem d_Core_failsInMemory_49 : decode b_Core_failsInMemory 49 = .ok (.iload_n 1, 1) := by decide +kernel
theorem d_Core_failsInMemory_50 : decode b_Core_failsInMemory 50 = .ok (.invokevirtual 171, 3) := by decide +kernel
theorem d_Core_failsInMemory_53 : decode b_Core_failsInMemory 53 = .ok (.iconst (-1), 1) := by decide +kernel
theorem d_Core_failsInMemory_54 : decode b_Core_failsInMemory 54 = .ok (.if_icmp .ne 5, 3) := by decide +kernel
theorem d_Core_failsInMemory_57 : decode b_Core_failsInMemory 57 = .ok (.iconst 0, 1) := by decide +kernel
theorem d_Core_failsInMemory_58 : decode b_Core_failsInMemory 58 = .ok (.ireturn, 1) := by decide +kernel
theorem d_Core_failsInMemory_59 : decode b_Core_failsInMemory 59 = .ok (.aload_n 0, 1) := by decide +kernel
theorem d_Core_failsInMemory_60 : decode b_Core_failsInMemory 60 = .ok (.aload_n 0, 1) := by decide +kernel
theorem d_Core_failsInMemory_61 : decode b_Core_failsInMemory 61 = .ok (.getfield 12, 3) := by decide +kernel
theorem d_Core_failsInMemory_64 : decode b_Core_failsInMemory 64 = .ok (.invokevirtual 142, 3) := by decide +kernel
theorem d_Core_failsInMemory_67 : decode b_Core_failsInMemory 67 = .ok (.ifCond .eq 7, 3) := by decide +kernel
theorem d_Core_failsInMemory_70 : decode b_Core_failsInMemory 70 = .ok (.iconst 4, 1) := by decide +kernel
theorem d_Core_failsInMemory_71 : decode b_Core_failsInMemory 71 = .ok (.goto 4, 3) := by decide +kernel
theorem d_Core_failsInMemory_74 : decode b_Core_failsInMemory 74 = .ok (.iconst 3, 1) := by decide +kernel
theorem d_Core_failsInMemory_75 : decode b_Core_failsInMemory 75 = .ok (.iload_n 2, 1) := by decide +kernel
theorem d_Core_failsInMemory_76 : decode b_Core_failsInMemory 76 = .ok (.invokevirtual 78, 3) := by decide +kernel
theorem d_Core_failsInMemory_79 : decode b_Core_failsInMemory 79 = .ok (.iconst 1, 1) := by decide +kernel
theorem d_Core_failsInMemory_80 : decode b_Core_failsInMemory 80 = .ok (.ireturn, 1) := by decide +kernel
theorem d_Core_address_0 : decode b_Core_address 0 = .ok (.aload_n 0, 1) := by decide +kernel
theorem d_Core_address_1 : decode b_Core_address 1 = .ok (.aload_n 0, 1) := by decide +kernel
theorem d_Core_address_2 : decode b_Core_address 2 = .ok (.getfield 12, 3) := by decide +kernel
theorem d_Core_address_5 : decode b_Core_address 5 = .ok (.getfield 178, 3) := by decide +kernel
theorem d_Core_address_8 : decode b_Core_address 8 = .ok (.invokevirtual 139, 3) := by decide +kernel
theorem d_Core_address_11 : decode b_Core_address 11 = .ok (.aload_n 0, 1) := by decide +kernel
theorem d_Core_address_12 : decode b_Core_address 12 = .ok (.getfield 12, 3) := by decide +kernel
theorem d_Core_address_15 : decode b_Core_address 15 = .ok (.getfield 181, 3) := by decide +kernel
theorem d_Core_address_18 : decode b_Core_address 18 = .ok (.iadd, 1) := by decide +kernel
theorem d_Core_address_19 : decode b_Core_address 19 = .ok (.ireturn, 1) := by decide +kernel
theorem d_Core_perform_0 : decode b_Core_perform 0 = .ok (.aload_n 0, 1) := by decide +kernel
theorem d_Core_perform_1 : decode b_Core_perform 1 = .ok (.getfield 12, 3) := by decide +kernel
theorem d_Core_perform_4 : decode b_Core_perform 4 = .ok (.getfield 133, 3) := by decide +kernel
theorem d_Core_perform_7 : decode b_Core_perform 7 = .ok (.istore_n 1, 1) := by decide +kernel
theorem d_Core_perform_8 : decode b_Core_perform 8 = .ok (.iload_n 1, 1) := by decide +kernel
theorem d_Core_perform_9 : decode b_Core_perform 9 = .ok (.iconst 2, 1) := by decide +kernel
theorem d_Core_perform_10 : decode b_Core_perform 10 = .ok (.if_icmp .ne 22, 3) := by decide +kernel
theorem d_Core_perform_13 : decode b_Core_perform 13 = .ok (.aload_n 0, 1) := by decide +kernel
theorem d_Core_perform_14 : decode b_Core_perform 14 = .ok (.aload_n 0, 1) := by decide +kernel
theorem d_Core_perform_15 : decode b_Core_perform 15 = .ok (.getfield 38, 3) := by decide +kernel
theorem d_Core_perform_18 : decode b_Core_perform 18 = .ok (.aload_n 0, 1) := by decide +kernel
theorem d_Core_perform_19 : decode b_Core_perform 19 = .ok (.getfield 12, 3) := by decide +kernel
theorem d_Core_perform_22 : decode b_Core_perform 22 = .ok (.getfield 181, 3) := by decide +kernel
theorem d_Core_perform_25 : decode b_Core_perform 25 = .ok (.iadd, 1) := by decide +kernel
theorem d_Core_perform_26 : decode b_Core_perform 26 = .ok (.invokevirtual 184, 3) := by decide +kernel
theorem d_Core_perform_29 : decode b_Core_perform 29 = .ok (.goto 80, 3) := by decide +kernel
theorem d_Core_perform_32 : decode b_Core_perform 32 = .ok (.iload_n 1, 1) := by decide +kernel
theorem d_Core_perform_33 : decode b_Core_perform 33 = .ok (.iconst 3, 1) := by decide +kernel
theorem d_Core_perform_34 : decode b_Core_perform 34 = .ok (.if_icmp .ne 17, 3) := by decide +kernel
theorem d_Core_perform_37 : decode b_Core_perform 37 = .ok (.aload_n 0, 1) := by decide +kernel
theorem d_Core_perform_38 : decode b_Core_perform 38 = .ok (.aload_n 0, 1) := by decide +kernel
theorem d_Core_perform_39 : decode b_Core_perform 39 = .ok (.invokevirtual 145, 3) := by decide +kernel
theorem d_Core_perform_42 : decode b_Core_perform 42 = .ok (.bipush (-2), 2) := by decide +kernel
theorem d_Core_perform_44 : decode b_Core_perform 44 = .ok (.iand, 1) := by decide +kernel
theorem d_Core_perform_45 : decode b_Core_perform 45 = .ok (.invokevirtual 184, 3) := by decide +kernel
theorem d_Core_perform_48 : decode b_Core_perform 48 = .ok (.goto 61, 3) := by decide +kernel
theorem d_Core_perform_51 : decode b_Core_perform 51 = .ok (.iload_n 1, 1) := by decide +kernel
theorem d_Core_perform_52 : decode b_Core_perform 52 = .ok (.iconst 4, 1) := by decide +kernel
theorem d_Core_perform_53 : decode b_Core_perform 53 = .ok (.if_icmp .lt 16, 3) := by decide +kernel
theorem d_Core_perform_56 : decode b_Core_perform 56 = .ok (.iload_n 1, 1) := by decide +kernel
theorem d_Core_perform_57 : decode b_Core_perform 57 = .ok (.bipush 9, 2) := by decide +kernel
theorem d_Core_perform_59 : decode b_Core_perform 59 = .ok (.if_icmp .gt 10, 3) := by decide +kernel
theorem d_Core_perform_62 : decode b_Core_perform 62 = .ok (.aload_n 0, 1) := by decide +kernel
theorem d_Core_perform_63 : decode b_Core_perform 63 = .ok (.invokevirtual 188, 3) := by decide +kernel
theorem d_Core_perform_66 : decode b_Core_perform 66 = .ok (.goto 43, 3) := by decide +kernel
theorem d_Core_perform_69 : decode b_Core_perform 69 = .ok (.iload_n 1, 1) := by decide +kernel
theorem d_Core_perform_70 : decode b_Core_perform 70 = .ok (.bipush 46, 2) := by decide +kernel
theorem d_Core_perform_72 : decode b_Core_perform 72 = .ok (.if_icmp .ne 10, 3) := by decide +kernel
theorem d_Core_perform_75 : decode b_Core_perform 75 = .ok (.aload_n 0, 1) := by decide +kernel
theorem d_Core_perform_76 : decode b_Core_perform 76 = .ok (.invokevirtual 191, 3) := by decide +kernel
theorem d_Core_perform_79 : decode b_Core_perform 79 = .ok (.goto 30, 3) := by decide +kernel
theorem d_Core_perform_82 : decode b_Core_perform 82 = .ok (.iload_n 1, 1) := by decide +kernel
theorem d_Core_perform_83 : decode b_Core_perform 83 = .ok (.bipush 47, 2) := by decide +kernel
theorem d_Core_perform_85 : decode b_Core_perform 85 = .ok (.if_icmp .ne 16, 3) := by decide +kernel
theorem d_Core_perform_88 : decode b_Core_perform 88 = .ok (.aload_n 0, 1) := by decide +kernel
theorem d_Core_perform_89 : decode b_Core_perform 89 = .ok (.bipush 6, 2) := by decide +kernel
theorem d_Core_perform_91 : decode b_Core_perform 91 = .ok (.aload_n 0, 1) := by decide +kernel
theorem d_Core_perform_92 : decode b_Core_perform 92 = .ok (.getfield 38, 3) := by decide +kernel
theorem d_Core_perform_95 : decode b_Core_perform 95 = .ok (.invokevirtual 78, 3) := by decide +kernel
theorem d_Core_perform_98 : decode b_Core_perform 98 = .ok (.goto 11, 3) := by decide +kernel
theorem d_Core_perform_101 : decode b_Core_perform 101 = .ok (.aload_n 0, 1) := by decide +kernel
theorem d_Core_perform_102 : decode b_Core_perform 102 = .ok (.invokevirtual 194, 3) := by decide +kernel
theorem d_Core_perform_105 : decode b_Core_perform 105 = .ok (.aload_n 0, 1) := by decide +kernel
theorem d_Core_perform_106 : decode b_Core_perform 106 = .ok (.invokevirtual 197, 3) := by decide +kernel
theorem d_Core_perform_109 : decode b_Core_perform 109 = .ok (.return_, 1) := by decide +kernel
theorem d_Core_change_0 : decode b_Core_change 0 = .ok (.aload_n 0, 1) := by decide +kernel
theorem d_Core_change_1 : decode b_Core_change 1 = .ok (.getfield 12, 3) := by decide +kernel
theorem d_Core_change_4 : decode b_Core_change 4 = .ok (.getfield 133, 3) := by decide +kernel
theorem d_Core_change_7 : decode b_Core_change 7 = .ok (.istore_n 1, 1) := by decide +kernel
theorem d_Core_change_8 : decode b_Core_change 8 = .ok (.iload_n 1, 1) := by decide +kernel
theorem d_Core_change_9 : decode b_Core_change 9 = .ok (.ifCond .ne 28, 3) := by decide +kernel
theorem d_Core_change_12 : decode b_Core_change 12 = .ok (.aload_n 0, 1) := by decide +kernel
theorem d_Core_change_13 : decode b_Core_change 13 = .ok (.aload_n 0, 1) := by decide +kernel
theorem d_Core_change_14 : decode b_Core_change 14 = .ok (.getfield 12, 3) := by decide +kernel
theorem d_Core_change_17 : decode b_Core_change 17 = .ok (.getfield 136, 3) := by decide +kernel
theorem d_Core_change_20 : decode b_Core_change 20 = .ok (.aload_n 0, 1) := by decide +kernel
theorem d_Core_change_21 : decode b_Core_change 21 = .ok (.getfield 12, 3) := by decide +kernel
theorem d_Core_change_24 : decode b_Core_change 24 = .ok (.getfield 181, 3) := by decide +kernel
theorem d_Core_change_27 : decode b_Core_change 27 = .ok (.bipush 12, 2) := by decide +kernel
theorem d_Core_change_29 : decode b_Core_change 29 = .ok (.ishl, 1) := by decide +kernel
theorem d_Core_change_30 : decode b_Core_change 30 = .ok (.invokevirtual 118, 3) := by decide +kernel
theorem d_Core_change_33 : decode b_Core_change 33 = .ok (.pop, 1) := by decide +kernel
theorem d_Core_change_34 : decode b_Core_change 34 = .ok (.goto 171, 3) := by decide +kernel
theorem d_Core_change_37 : decode b_Core_change 37 = .ok (.iload_n 1, 1) := by decide +kernel
theorem d_Core_change_38 : decode b_Core_change 38 = .ok (.iconst 1, 1) := by decide +kernel
theorem d_Core_change_39 : decode b_Core_change 39 = .ok (.if_icmp .ne 33, 3) := by decide +kernel
theorem d_Core_change_42 : decode b_Core_change 42 = .ok (.aload_n 0, 1) := by decide +kernel
theorem d_Core_change_43 : decode b_Core_change 43 = .ok (.aload_n 0, 1) := by decide +kernel
theorem d_Core_change_44 : decode b_Core_change 44 = .ok (.getfield 12, 3) := by decide +kernel
theorem d_Core_change_47 : decode b_Core_change 47 = .ok (.getfield 136, 3) := by decide +kernel
theorem d_Core_change_50 : decode b_Core_change 50 = .ok (.aload_n 0, 1) := by decide +kernel
theorem d_Core_change_51 : decode b_Core_change 51 = .ok (.getfield 38, 3) := by decide +kernel
theorem d_Core_change_54 : decode b_Core_change 54 = .ok (.aload_n 0, 1) := by decide +kernel
theorem d_Core_change_55 : decode b_Core_change 55 = .ok (.getfield 12, 3) := by decide +kernel
theorem d_Core_change_58 : decode b_Core_change 58 = .ok (.getfield 181, 3) := by decide +kernel
theorem d_Core_change_61 : decode b_Core_change 61 = .ok (.bipush 12, 2) := by decide +kernel
