theorem d_M_take_36 : decode b_M_take 36 = .ok (.goto (-34), 3) := by decide +kernel
theorem d_M_take_39 : decode b_M_take 39 = .ok (.iconst 0, 1) := by decide +kernel
theorem d_M_take_40 : decode b_M_take 40 = .ok (.istore_n 3, 1) := by decide +kernel
theorem d_M_take_41 : decode b_M_take 41 = .ok (.iload_n 3, 1) := by decide +kernel
theorem d_M_take_42 : decode b_M_take 42 = .ok (.iload_n 1, 1) := by decide +kernel
theorem d_M_take_43 : decode b_M_take 43 = .ok (.invokestatic 97, 3) := by decide +kernel
theorem d_M_take_46 : decode b_M_take 46 = .ok (.if_icmp .ge 112, 3) := by decide +kernel
theorem d_M_take_49 : decode b_M_take 49 = .ok (.aload_n 0, 1) := by decide +kernel
theorem d_M_take_50 : decode b_M_take 50 = .ok (.getfield 7, 3) := by decide +kernel
theorem d_M_take_53 : decode b_M_take 53 = .ok (.bipush 32, 2) := by decide +kernel
theorem d_M_take_55 : decode b_M_take 55 = .ok (.iload_n 1, 1) := by decide +kernel
theorem d_M_take_56 : decode b_M_take 56 = .ok (.imul, 1) := by decide +kernel
theorem d_M_take_57 : decode b_M_take 57 = .ok (.iload_n 3, 1) := by decide +kernel
theorem d_M_take_58 : decode b_M_take 58 = .ok (.iadd, 1) := by decide +kernel
theorem d_M_take_59 : decode b_M_take 59 = .ok (.iaload, 1) := by decide +kernel
theorem d_M_take_60 : decode b_M_take 60 = .ok (.istore 4, 2) := by decide +kernel
theorem d_M_take_62 : decode b_M_take 62 = .ok (.iload_n 2, 1) := by decide +kernel
theorem d_M_take_63 : decode b_M_take 63 = .ok (.iload_n 3, 1) := by decide +kernel
theorem d_M_take_64 : decode b_M_take 64 = .ok (.ishr, 1) := by decide +kernel
theorem d_M_take_65 : decode b_M_take 65 = .ok (.iconst 1, 1) := by decide +kernel
theorem d_M_take_66 : decode b_M_take 66 = .ok (.iand, 1) := by decide +kernel
theorem d_M_take_67 : decode b_M_take 67 = .ok (.istore 5, 2) := by decide +kernel
theorem d_M_take_69 : decode b_M_take 69 = .ok (.iload 4, 2) := by decide +kernel
theorem d_M_take_71 : decode b_M_take 71 = .ok (.iconst 2, 1) := by decide +kernel
theorem d_M_take_72 : decode b_M_take 72 = .ok (.if_icmp .ge 12, 3) := by decide +kernel
theorem d_M_take_75 : decode b_M_take 75 = .ok (.iload 4, 2) := by decide +kernel
theorem d_M_take_77 : decode b_M_take 77 = .ok (.iload 5, 2) := by decide +kernel
theorem d_M_take_79 : decode b_M_take 79 = .ok (.if_icmp .eq 5, 3) := by decide +kernel
theorem d_M_take_82 : decode b_M_take 82 = .ok (.iconst 0, 1) := by decide +kernel
theorem d_M_take_83 : decode b_M_take 83 = .ok (.ireturn, 1) := by decide +kernel
theorem d_M_take_84 : decode b_M_take 84 = .ok (.iload 4, 2) := by decide +kernel
theorem d_M_take_86 : decode b_M_take 86 = .ok (.iconst 1, 1) := by decide +kernel
theorem d_M_take_87 : decode b_M_take 87 = .ok (.if_icmp .le 34, 3) := by decide +kernel
theorem d_M_take_90 : decode b_M_take 90 = .ok (.iload 4, 2) := by decide +kernel
theorem d_M_take_92 : decode b_M_take 92 = .ok (.sipush 500, 3) := by decide +kernel
theorem d_M_take_95 : decode b_M_take 95 = .ok (.if_icmp .ge 26, 3) := by decide +kernel
theorem d_M_take_98 : decode b_M_take 98 = .ok (.aload_n 0, 1) := by decide +kernel
theorem d_M_take_99 : decode b_M_take 99 = .ok (.getfield 13, 3) := by decide +kernel
theorem d_M_take_102 : decode b_M_take 102 = .ok (.iload 4, 2) := by decide +kernel
theorem d_M_take_104 : decode b_M_take 104 = .ok (.bipush 100, 2) := by decide +kernel
theorem d_M_take_106 : decode b_M_take 106 = .ok (.idiv, 1) := by decide +kernel
theorem d_M_take_107 : decode b_M_take 107 = .ok (.iconst 1, 1) := by decide +kernel
theorem d_M_take_108 : decode b_M_take 108 = .ok (.isub, 1) := by decide +kernel
theorem d_M_take_109 : decode b_M_take 109 = .ok (.dup2, 1) := by decide +kernel
theorem d_M_take_110 : decode b_M_take 110 = .ok (.iaload, 1) := by decide +kernel
theorem d_M_take_111 : decode b_M_take 111 = .ok (.iload 5, 2) := by decide +kernel
theorem d_M_take_113 : decode b_M_take 113 = .ok (.iload 4, 2) := by decide +kernel
theorem d_M_take_115 : decode b_M_take 115 = .ok (.bipush 100, 2) := by decide +kernel
theorem d_M_take_117 : decode b_M_take 117 = .ok (.irem, 1) := by decide +kernel
theorem d_M_take_118 : decode b_M_take 118 = .ok (.ishl, 1) := by decide +kernel
theorem d_M_take_119 : decode b_M_take 119 = .ok (.iadd, 1) := by decide +kernel
theorem d_M_take_120 : decode b_M_take 120 = .ok (.iastore, 1) := by decide +kernel
theorem d_M_take_121 : decode b_M_take 121 = .ok (.iload 4, 2) := by decide +kernel
theorem d_M_take_123 : decode b_M_take 123 = .ok (.sipush 500, 3) := by decide +kernel
theorem d_M_take_126 : decode b_M_take 126 = .ok (.if_icmp .lt 26, 3) := by decide +kernel
theorem d_M_take_129 : decode b_M_take 129 = .ok (.aload_n 0, 1) := by decide +kernel
theorem d_M_take_130 : decode b_M_take 130 = .ok (.getfield 13, 3) := by decide +kernel
theorem d_M_take_133 : decode b_M_take 133 = .ok (.iload 4, 2) := by decide +kernel
theorem d_M_take_135 : decode b_M_take 135 = .ok (.bipush 100, 2) := by decide +kernel
theorem d_M_take_137 : decode b_M_take 137 = .ok (.idiv, 1) := by decide +kernel
theorem d_M_take_138 : decode b_M_take 138 = .ok (.iconst 5, 1) := by decide +kernel
theorem d_M_take_139 : decode b_M_take 139 = .ok (.isub, 1) := by decide +kernel
theorem d_M_take_140 : decode b_M_take 140 = .ok (.dup2, 1) := by decide +kernel
theorem d_M_take_141 : decode b_M_take 141 = .ok (.iaload, 1) := by decide +kernel
theorem d_M_take_142 : decode b_M_take 142 = .ok (.iload 5, 2) := by decide +kernel
theorem d_M_take_144 : decode b_M_take 144 = .ok (.iload 4, 2) := by decide +kernel
theorem d_M_take_146 : decode b_M_take 146 = .ok (.bipush 100, 2) := by decide +kernel
theorem d_M_take_148 : decode b_M_take 148 = .ok (.irem, 1) := by decide +kernel
theorem d_M_take_149 : decode b_M_take 149 = .ok (.ishl, 1) := by decide +kernel
theorem d_M_take_150 : decode b_M_take 150 = .ok (.iadd, 1) := by decide +kernel
theorem d_M_take_151 : decode b_M_take 151 = .ok (.iastore, 1) := by decide +kernel
theorem d_M_take_152 : decode b_M_take 152 = .ok (.iinc 3 1, 3) := by decide +kernel
theorem d_M_take_155 : decode b_M_take 155 = .ok (.goto (-114), 3) := by decide +kernel
theorem d_M_take_158 : decode b_M_take 158 = .ok (.iload_n 1, 1) := by decide +kernel
theorem d_M_take_159 : decode b_M_take 159 = .ok (.invokestatic 161, 3) := by decide +kernel
theorem d_M_take_162 : decode b_M_take 162 = .ok (.istore_n 3, 1) := by decide +kernel
theorem d_M_take_163 : decode b_M_take 163 = .ok (.iload_n 3, 1) := by decide +kernel
theorem d_M_take_164 : decode b_M_take 164 = .ok (.ifCond .lt 25, 3) := by decide +kernel
theorem d_M_take_167 : decode b_M_take 167 = .ok (.aload_n 0, 1) := by decide +kernel
theorem d_M_take_168 : decode b_M_take 168 = .ok (.getfield 13, 3) := by decide +kernel
theorem d_M_take_171 : decode b_M_take 171 = .ok (.iconst 3, 1) := by decide +kernel
theorem d_M_take_172 : decode b_M_take 172 = .ok (.aload_n 0, 1) := by decide +kernel
theorem d_M_take_173 : decode b_M_take 173 = .ok (.getfield 13, 3) := by decide +kernel
theorem d_M_take_176 : decode b_M_take 176 = .ok (.iconst 3, 1) := by decide +kernel
theorem d_M_take_177 : decode b_M_take 177 = .ok (.iaload, 1) := by decide +kernel
theorem d_M_take_178 : decode b_M_take 178 = .ok (.bipush 31, 2) := by decide +kernel
theorem d_M_take_180 : decode b_M_take 180 = .ok (.iload_n 3, 1) := by decide +kernel
theorem d_M_take_181 : decode b_M_take 181 = .ok (.isub, 1) := by decide +kernel
theorem d_M_take_182 : decode b_M_take 182 = .ok (.ishl, 1) := by decide +kernel
theorem d_M_take_183 : decode b_M_take 183 = .ok (.bipush 31, 2) := by decide +kernel
theorem d_M_take_185 : decode b_M_take 185 = .ok (.iload_n 3, 1) := by decide +kernel
theorem d_M_take_186 : decode b_M_take 186 = .ok (.isub, 1) := by decide +kernel
theorem d_M_take_187 : decode b_M_take 187 = .ok (.ishr, 1) := by decide +kernel
theorem d_M_take_188 : decode b_M_take 188 = .ok (.iastore, 1) := by decide +kernel
theorem d_M_take_189 : decode b_M_take 189 = .ok (.iload_n 1, 1) := by decide +kernel
theorem d_M_take_190 : decode b_M_take 190 = .ok (.bipush 56, 2) := by decide +kernel
theorem d_M_take_192 : decode b_M_take 192 = .ok (.if_icmp .ne 18, 3) := by decide +kernel
theorem d_M_take_195 : decode b_M_take 195 = .ok (.aload_n 0, 1) := by decide +kernel
theorem d_M_take_196 : decode b_M_take 196 = .ok (.getfield 13, 3) := by decide +kernel
theorem d_M_take_199 : decode b_M_take 199 = .ok (.iconst 3, 1) := by decide +kernel
theorem d_M_take_200 : decode b_M_take 200 = .ok (.aload_n 0, 1) := by decide +kernel
theorem d_M_take_201 : decode b_M_take 201 = .ok (.getfield 13, 3) := by decide +kernel
theorem d_M_take_204 : decode b_M_take 204 = .ok (.iconst 3, 1) := by decide +kernel
theorem d_M_take_205 : decode b_M_take 205 = .ok (.iaload, 1) := by decide +kernel
theorem d_M_take_206 : decode b_M_take 206 = .ok (.ldc 164, 2) := by decide +kernel
theorem d_M_take_208 : decode b_M_take 208 = .ok (.iand, 1) := by decide +kernel
theorem d_M_take_209 : decode b_M_take 209 = .ok (.iastore, 1) := by decide +kernel
theorem d_M_take_210 : decode b_M_take 210 = .ok (.aload_n 0, 1) := by decide +kernel
theorem d_M_take_211 : decode b_M_take 211 = .ok (.iload_n 1, 1) := by decide +kernel
theorem d_M_take_212 : decode b_M_take 212 = .ok (.invokevirtual 165, 3) := by decide +kernel
theorem d_M_take_215 : decode b_M_take 215 = .ok (.ireturn, 1) := by decide +kernel
theorem d_M_isLong_0 : decode b_M_isLong 0 = .ok (.iload_n 0, 1) := by decide +kernel
theorem d_M_isLong_1 : decode b_M_isLong 1 = .ok (.iconst 3, 1) := by decide +kernel
theorem d_M_isLong_2 : decode b_M_isLong 2 = .ok (.iand, 1) := by decide +kernel
theorem d_M_isLong_3 : decode b_M_isLong 3 = .ok (.iconst 3, 1) := by decide +kernel
theorem d_M_isLong_4 : decode b_M_isLong 4 = .ok (.if_icmp .ne 7, 3) := by decide +kernel
theorem d_M_isLong_7 : decode b_M_isLong 7 = .ok (.iconst 1, 1) := by decide +kernel
theorem d_M_isLong_8 : decode b_M_isLong 8 = .ok (.goto 4, 3) := by decide +kernel
theorem d_M_isLong_11 : decode b_M_isLong 11 = .ok (.iconst 0, 1) := by decide +kernel
theorem d_M_isLong_12 : decode b_M_isLong 12 = .ok (.ireturn, 1) := by decide +kernel
theorem d_M_find_0 : decode b_M_find 0 = .ok (.iload_n 1, 1) := by decide +kernel
theorem d_M_find_1 : decode b_M_find 1 = .ok (.invokestatic 168, 3) := by decide +kernel
theorem d_M_find_4 : decode b_M_find 4 = .ok (.ifCond .eq 7, 3) := by decide +kernel
theorem d_M_find_7 : decode b_M_find 7 = .ok (.iconst 0, 1) := by decide +kernel
theorem d_M_find_8 : decode b_M_find 8 = .ok (.goto 5, 3) := by decide +kernel
theorem d_M_find_11 : decode b_M_find 11 = .ok (.bipush 48, 2) := by decide +kernel
theorem d_M_find_13 : decode b_M_find 13 = .ok (.istore_n 2, 1) := by decide +kernel
theorem d_M_find_14 : decode b_M_find 14 = .ok (.iload_n 1, 1) := by decide +kernel
theorem d_M_find_15 : decode b_M_find 15 = .ok (.invokestatic 168, 3) := by decide +kernel
theorem d_M_find_18 : decode b_M_find 18 = .ok (.ifCond .eq 8, 3) := by decide +kernel
theorem d_M_find_21 : decode b_M_find 21 = .ok (.bipush 48, 2) := by decide +kernel
theorem d_M_find_23 : decode b_M_find 23 = .ok (.goto 5, 3) := by decide +kernel
theorem d_M_find_26 : decode b_M_find 26 = .ok (.bipush 75, 2) := by decide +kernel
theorem d_M_find_28 : decode b_M_find 28 = .ok (.istore_n 3, 1) := by decide +kernel
theorem d_M_find_29 : decode b_M_find 29 = .ok (.iload_n 2, 1) := by decide +kernel
theorem d_M_find_30 : decode b_M_find 30 = .ok (.istore 4, 2) := by decide +kernel
theorem d_M_find_32 : decode b_M_find 32 = .ok (.iload 4, 2) := by decide +kernel
theorem d_M_find_34 : decode b_M_find 34 = .ok (.iload_n 3, 1) := by decide +kernel
theorem d_M_find_35 : decode b_M_find 35 = .ok (.if_icmp .ge 22, 3) := by decide +kernel
theorem d_M_find_38 : decode b_M_find 38 = .ok (.aload_n 0, 1) := by decide +kernel
theorem d_M_find_39 : decode b_M_find 39 = .ok (.iload 4, 2) := by decide +kernel
theorem d_M_find_41 : decode b_M_find 41 = .ok (.iload_n 1, 1) := by decide +kernel
theorem d_M_find_42 : decode b_M_find 42 = .ok (.invokevirtual 171, 3) := by decide +kernel
theorem d_M_find_45 : decode b_M_find 45 = .ok (.ifCond .eq 6, 3) := by decide +kernel
theorem d_M_find_48 : decode b_M_find 48 = .ok (.iload 4, 2) := by decide +kernel
theorem d_M_find_50 : decode b_M_find 50 = .ok (.ireturn, 1) := by decide +kernel
theorem d_M_find_51 : decode b_M_find 51 = .ok (.iinc 4 1, 3) := by decide +kernel
theorem d_M_find_54 : decode b_M_find 54 = .ok (.goto (-22), 3) := by decide +kernel
theorem d_M_find_57 : decode b_M_find 57 = .ok (.iconst (-1), 1) := by decide +kernel
theorem d_M_find_58 : decode b_M_find 58 = .ok (.ireturn, 1) := by decide +kernel
theorem d_M_longKind_0 : decode b_M_longKind 0 = .ok (.iload_n 0, 1) := by decide +kernel
theorem d_M_longKind_1 : decode b_M_longKind 1 = .ok (.tableswitch 169 48 74 #[123, 126, 129, 123, 123, 132, 123, 123, 134, 136, 139, 142, 145, 148, 151, 154, 132, 157, 159, 161, 126, 164, 169, 166, 164, 169, 129], 123) := by decide +kernel
theorem d_M_longKind_124 : decode b_M_longKind 124 = .ok (.bipush 18, 2) := by decide +kernel
theorem d_M_longKind_126 : decode b_M_longKind 126 = .ok (.ireturn, 1) := by decide +kernel
theorem d_M_longKind_127 : decode b_M_longKind 127 = .ok (.bipush 12, 2) := by decide +kernel
theorem d_M_longKind_129 : decode b_M_longKind 129 = .ok (.ireturn, 1) := by decide +kernel
theorem d_M_longKind_130 : decode b_M_longKind 130 = .ok (.bipush 17, 2) := by decide +kernel
theorem d_M_longKind_132 : decode b_M_longKind 132 = .ok (.ireturn, 1) := by decide +kernel
theorem d_M_longKind_133 : decode b_M_longKind 133 = .ok (.iconst 2, 1) := by decide +kernel
theorem d_M_longKind_134 : decode b_M_longKind 134 = .ok (.ireturn, 1) := by decide +kernel
theorem d_M_longKind_135 : decode b_M_longKind 135 = .ok (.iconst 0, 1) := by decide +kernel
theorem d_M_longKind_136 : decode b_M_longKind 136 = .ok (.ireturn, 1) := by decide +kernel
theorem d_M_longKind_137 : decode b_M_longKind 137 = .ok (.bipush 25, 2) := by decide +kernel
theorem d_M_longKind_139 : decode b_M_longKind 139 = .ok (.ireturn, 1) := by decide +kernel
theorem d_M_longKind_140 : decode b_M_longKind 140 = .ok (.bipush 26, 2) := by decide +kernel
theorem d_M_longKind_142 : decode b_M_longKind 142 = .ok (.ireturn, 1) := by decide +kernel
theorem d_M_longKind_143 : decode b_M_longKind 143 = .ok (.bipush 23, 2) := by decide +kernel
theorem d_M_longKind_145 : decode b_M_longKind 145 = .ok (.ireturn, 1) := by decide +kernel
theorem d_M_longKind_146 : decode b_M_longKind 146 = .ok (.bipush 28, 2) := by decide +kernel
theorem d_M_longKind_148 : decode b_M_longKind 148 = .ok (.ireturn, 1) := by decide +kernel
theorem d_M_longKind_149 : decode b_M_longKind 149 = .ok (.bipush 32, 2) := by decide +kernel
theorem d_M_longKind_151 : decode b_M_longKind 151 = .ok (.ireturn, 1) := by decide +kernel
theorem d_M_longKind_152 : decode b_M_longKind 152 = .ok (.bipush 35, 2) := by decide +kernel
theorem d_M_longKind_154 : decode b_M_longKind 154 = .ok (.ireturn, 1) := by decide +kernel
theorem d_M_longKind_155 : decode b_M_longKind 155 = .ok (.bipush 36, 2) := by decide +kernel
theorem d_M_longKind_157 : decode b_M_longKind 157 = .ok (.ireturn, 1) := by decide +kernel
theorem d_M_longKind_158 : decode b_M_longKind 158 = .ok (.iconst 4, 1) := by decide +kernel
theorem d_M_longKind_159 : decode b_M_longKind 159 = .ok (.ireturn, 1) := by decide +kernel
theorem d_M_longKind_160 : decode b_M_longKind 160 = .ok (.iconst 5, 1) := by decide +kernel
theorem d_M_longKind_161 : decode b_M_longKind 161 = .ok (.ireturn, 1) := by decide +kernel
theorem d_M_longKind_162 : decode b_M_longKind 162 = .ok (.bipush 24, 2) := by decide +kernel
theorem d_M_longKind_164 : decode b_M_longKind 164 = .ok (.ireturn, 1) := by decide +kernel
theorem d_M_longKind_165 : decode b_M_longKind 165 = .ok (.iconst 3, 1) := by decide +kernel
theorem d_M_longKind_166 : decode b_M_longKind 166 = .ok (.ireturn, 1) := by decide +kernel
theorem d_M_longKind_167 : decode b_M_longKind 167 = .ok (.bipush 47, 2) := by decide +kernel
theorem d_M_longKind_169 : decode b_M_longKind 169 = .ok (.ireturn, 1) := by decide +kernel
theorem d_M_longKind_170 : decode b_M_longKind 170 = .ok (.bipush 27, 2) := by decide +kernel
theorem d_M_longKind_172 : decode b_M_longKind 172 = .ok (.ireturn, 1) := by decide +kernel
theorem d_M_stretch_0 : decode b_M_stretch 0 = .ok (.aload_n 0, 1) := by decide +kernel
theorem d_M_stretch_1 : decode b_M_stretch 1 = .ok (.getfield 13, 3) := by decide +kernel
theorem d_M_stretch_4 : decode b_M_stretch 4 = .ok (.iconst 0, 1) := by decide +kernel
theorem d_M_stretch_5 : decode b_M_stretch 5 = .ok (.iaload, 1) := by decide +kernel
theorem d_M_stretch_6 : decode b_M_stretch 6 = .ok (.istore_n 2, 1) := by decide +kernel
theorem d_M_stretch_7 : decode b_M_stretch 7 = .ok (.iload_n 1, 1) := by decide +kernel
theorem d_M_stretch_8 : decode b_M_stretch 8 = .ok (.bipush 52, 2) := by decide +kernel
theorem d_M_stretch_10 : decode b_M_stretch 10 = .ok (.if_icmp .eq 45, 3) := by decide +kernel
theorem d_M_stretch_13 : decode b_M_stretch 13 = .ok (.iload_n 1, 1) := by decide +kernel
theorem d_M_stretch_14 : decode b_M_stretch 14 = .ok (.bipush 57, 2) := by decide +kernel
theorem d_M_stretch_16 : decode b_M_stretch 16 = .ok (.if_icmp .eq 39, 3) := by decide +kernel
theorem d_M_stretch_19 : decode b_M_stretch 19 = .ok (.iload_n 1, 1) := by decide +kernel
theorem d_M_stretch_20 : decode b_M_stretch 20 = .ok (.bipush 58, 2) := by decide +kernel
theorem d_M_stretch_22 : decode b_M_stretch 22 = .ok (.if_icmp .eq 33, 3) := by decide +kernel
theorem d_M_stretch_25 : decode b_M_stretch 25 = .ok (.iload_n 1, 1) := by decide +kernel
theorem d_M_stretch_26 : decode b_M_stretch 26 = .ok (.bipush 59, 2) := by decide +kernel
theorem d_M_stretch_28 : decode b_M_stretch 28 = .ok (.if_icmp .eq 27, 3) := by decide +kernel
theorem d_M_stretch_31 : decode b_M_stretch 31 = .ok (.iload_n 1, 1) := by decide +kernel
theorem d_M_stretch_32 : decode b_M_stretch 32 = .ok (.bipush 59, 2) := by decide +kernel
theorem d_M_stretch_34 : decode b_M_stretch 34 = .ok (.if_icmp .le 9, 3) := by decide +kernel
theorem d_M_stretch_37 : decode b_M_stretch 37 = .ok (.iload_n 1, 1) := by decide +kernel
theorem d_M_stretch_38 : decode b_M_stretch 38 = .ok (.bipush 64, 2) := by decide +kernel
theorem d_M_stretch_40 : decode b_M_stretch 40 = .ok (.if_icmp .lt 15, 3) := by decide +kernel
theorem d_M_stretch_43 : decode b_M_stretch 43 = .ok (.iload_n 1, 1) := by decide +kernel
theorem d_M_stretch_44 : decode b_M_stretch 44 = .ok (.bipush 67, 2) := by decide +kernel
theorem d_M_stretch_46 : decode b_M_stretch 46 = .ok (.if_icmp .eq 9, 3) := by decide +kernel
theorem d_M_stretch_49 : decode b_M_stretch 49 = .ok (.iload_n 1, 1) := by decide +kernel
theorem d_M_stretch_50 : decode b_M_stretch 50 = .ok (.bipush 73, 2) := by decide +kernel
theorem d_M_stretch_52 : decode b_M_stretch 52 = .ok (.if_icmp .ne 7, 3) := by decide +kernel
theorem d_M_stretch_55 : decode b_M_stretch 55 = .ok (.iconst 1, 1) := by decide +kernel
theorem d_M_stretch_56 : decode b_M_stretch 56 = .ok (.goto 4, 3) := by decide +kernel
theorem d_M_stretch_59 : decode b_M_stretch 59 = .ok (.iconst 0, 1) := by decide +kernel
theorem d_M_stretch_60 : decode b_M_stretch 60 = .ok (.istore_n 3, 1) := by decide +kernel
theorem d_M_stretch_61 : decode b_M_stretch 61 = .ok (.iload_n 1, 1) := by decide +kernel
theorem d_M_stretch_62 : decode b_M_stretch 62 = .ok (.bipush 48, 2) := by decide +kernel
theorem d_M_stretch_64 : decode b_M_stretch 64 = .ok (.if_icmp .eq 21, 3) := by decide +kernel
theorem d_M_stretch_67 : decode b_M_stretch 67 = .ok (.iload_n 1, 1) := by decide +kernel
theorem d_M_stretch_68 : decode b_M_stretch 68 = .ok (.bipush 55, 2) := by decide +kernel
theorem d_M_stretch_70 : decode b_M_stretch 70 = .ok (.if_icmp .eq 15, 3) := by decide +kernel
theorem d_M_stretch_73 : decode b_M_stretch 73 = .ok (.iload_n 1, 1) := by decide +kernel
theorem d_M_stretch_74 : decode b_M_stretch 74 = .ok (.bipush 68, 2) := by decide +kernel
theorem d_M_stretch_76 : decode b_M_stretch 76 = .ok (.if_icmp .eq 9, 3) := by decide +kernel
theorem d_M_stretch_79 : decode b_M_stretch 79 = .ok (.iload_n 1, 1) := by decide +kernel
theorem d_M_stretch_80 : decode b_M_stretch 80 = .ok (.bipush 74, 2) := by decide +kernel
theorem d_M_stretch_82 : decode b_M_stretch 82 = .ok (.if_icmp .ne 7, 3) := by decide +kernel
theorem d_M_stretch_85 : decode b_M_stretch 85 = .ok (.iconst 1, 1) := by decide +kernel
theorem d_M_stretch_86 : decode b_M_stretch 86 = .ok (.goto 4, 3) := by decide +kernel
theorem d_M_stretch_89 : decode b_M_stretch 89 = .ok (.iconst 0, 1) := by decide +kernel
theorem d_M_stretch_90 : decode b_M_stretch 90 = .ok (.istore 4, 2) := by decide +kernel
theorem d_M_stretch_92 : decode b_M_stretch 92 = .ok (.iload_n 3, 1) := by decide +kernel
theorem d_M_stretch_93 : decode b_M_stretch 93 = .ok (.ifCond .eq 10, 3) := by decide +kernel
theorem d_M_stretch_96 : decode b_M_stretch 96 = .ok (.aload_n 0, 1) := by decide +kernel
theorem d_M_stretch_97 : decode b_M_stretch 97 = .ok (.getfield 13, 3) := by decide +kernel
theorem d_M_stretch_100 : decode b_M_stretch 100 = .ok (.iconst 1, 1) := by decide +kernel
theorem d_M_stretch_101 : decode b_M_stretch 101 = .ok (.iload_n 2, 1) := by decide +kernel
theorem d_M_stretch_102 : decode b_M_stretch 102 = .ok (.iastore, 1) := by decide +kernel
theorem d_M_stretch_103 : decode b_M_stretch 103 = .ok (.iload 4, 2) := by decide +kernel
theorem d_M_stretch_105 : decode b_M_stretch 105 = .ok (.ifCond .eq 10, 3) := by decide +kernel
theorem d_M_stretch_108 : decode b_M_stretch 108 = .ok (.aload_n 0, 1) := by decide +kernel
theorem d_M_stretch_109 : decode b_M_stretch 109 = .ok (.getfield 13, 3) := by decide +kernel
theorem d_M_stretch_112 : decode b_M_stretch 112 = .ok (.iconst 1, 1) := by decide +kernel
theorem d_M_stretch_113 : decode b_M_stretch 113 = .ok (.iconst 2, 1) := by decide +kernel
theorem d_M_stretch_114 : decode b_M_stretch 114 = .ok (.iastore, 1) := by decide +kernel
theorem d_M_stretch_115 : decode b_M_stretch 115 = .ok (.iload_n 1, 1) := by decide +kernel
theorem d_M_stretch_116 : decode b_M_stretch 116 = .ok (.bipush 51, 2) := by decide +kernel
theorem d_M_stretch_118 : decode b_M_stretch 118 = .ok (.if_icmp .eq 15, 3) := by decide +kernel
theorem d_M_stretch_121 : decode b_M_stretch 121 = .ok (.iload_n 1, 1) := by decide +kernel
theorem d_M_stretch_122 : decode b_M_stretch 122 = .ok (.bipush 54, 2) := by decide +kernel
theorem d_M_stretch_124 : decode b_M_stretch 124 = .ok (.if_icmp .eq 9, 3) := by decide +kernel
theorem d_M_stretch_127 : decode b_M_stretch 127 = .ok (.iload_n 1, 1) := by decide +kernel
theorem d_M_stretch_128 : decode b_M_stretch 128 = .ok (.bipush 70, 2) := by decide +kernel
theorem d_M_stretch_130 : decode b_M_stretch 130 = .ok (.if_icmp .ne 10, 3) := by decide +kernel
theorem d_M_stretch_133 : decode b_M_stretch 133 = .ok (.aload_n 0, 1) := by decide +kernel
theorem d_M_stretch_134 : decode b_M_stretch 134 = .ok (.getfield 13, 3) := by decide +kernel
theorem d_M_stretch_137 : decode b_M_stretch 137 = .ok (.iconst 1, 1) := by decide +kernel
theorem d_M_stretch_138 : decode b_M_stretch 138 = .ok (.iconst 0, 1) := by decide +kernel
theorem d_M_stretch_139 : decode b_M_stretch 139 = .ok (.iastore, 1) := by decide +kernel
theorem d_M_stretch_140 : decode b_M_stretch 140 = .ok (.iload_n 1, 1) := by decide +kernel
theorem d_M_stretch_141 : decode b_M_stretch 141 = .ok (.bipush 51, 2) := by decide +kernel
theorem d_M_stretch_143 : decode b_M_stretch 143 = .ok (.if_icmp .eq 15, 3) := by decide +kernel
theorem d_M_stretch_146 : decode b_M_stretch 146 = .ok (.iload_n 1, 1) := by decide +kernel
theorem d_M_stretch_147 : decode b_M_stretch 147 = .ok (.bipush 64, 2) := by decide +kernel
theorem d_M_stretch_149 : decode b_M_stretch 149 = .ok (.if_icmp .eq 9, 3) := by decide +kernel
theorem d_M_stretch_152 : decode b_M_stretch 152 = .ok (.iload_n 1, 1) := by decide +kernel
theorem d_M_stretch_153 : decode b_M_stretch 153 = .ok (.bipush 69, 2) := by decide +kernel
theorem d_M_stretch_155 : decode b_M_stretch 155 = .ok (.if_icmp .ne 10, 3) := by decide +kernel
theorem d_M_stretch_158 : decode b_M_stretch 158 = .ok (.aload_n 0, 1) := by decide +kernel
theorem d_M_stretch_159 : decode b_M_stretch 159 = .ok (.getfield 13, 3) := by decide +kernel
theorem d_M_stretch_162 : decode b_M_stretch 162 = .ok (.iconst 0, 1) := by decide +kernel
theorem d_M_stretch_163 : decode b_M_stretch 163 = .ok (.iconst 0, 1) := by decide +kernel
theorem d_M_stretch_164 : decode b_M_stretch 164 = .ok (.iastore, 1) := by decide +kernel
theorem d_M_stretch_165 : decode b_M_stretch 165 = .ok (.iload_n 1, 1) := by decide +kernel
theorem d_M_stretch_166 : decode b_M_stretch 166 = .ok (.bipush 53, 2) := by decide +kernel
theorem d_M_stretch_168 : decode b_M_stretch 168 = .ok (.if_icmp .eq 9, 3) := by decide +kernel
theorem d_M_stretch_171 : decode b_M_stretch 171 = .ok (.iload_n 1, 1) := by decide +kernel
theorem d_M_stretch_172 : decode b_M_stretch 172 = .ok (.bipush 72, 2) := by decide +kernel
theorem d_M_stretch_174 : decode b_M_stretch 174 = .ok (.if_icmp .ne 10, 3) := by decide +kernel
theorem d_M_stretch_177 : decode b_M_stretch 177 = .ok (.aload_n 0, 1) := by decide +kernel
theorem d_M_stretch_178 : decode b_M_stretch 178 = .ok (.getfield 13, 3) := by decide +kernel
theorem d_M_stretch_181 : decode b_M_stretch 181 = .ok (.iconst 0, 1) := by decide +kernel
theorem d_M_stretch_182 : decode b_M_stretch 182 = .ok (.iconst 1, 1) := by decide +kernel
theorem d_M_stretch_183 : decode b_M_stretch 183 = .ok (.iastore, 1) := by decide +kernel
theorem d_M_stretch_184 : decode b_M_stretch 184 = .ok (.iload_n 1, 1) := by decide +kernel
theorem d_M_stretch_185 : decode b_M_stretch 185 = .ok (.bipush 55, 2) := by decide +kernel
theorem d_M_stretch_187 : decode b_M_stretch 187 = .ok (.if_icmp .ne 10, 3) := by decide +kernel
theorem d_M_stretch_190 : decode b_M_stretch 190 = .ok (.aload_n 0, 1) := by decide +kernel
theorem d_M_stretch_191 : decode b_M_stretch 191 = .ok (.getfield 13, 3) := by decide +kernel
theorem d_M_stretch_194 : decode b_M_stretch 194 = .ok (.iconst 0, 1) := by decide +kernel
theorem d_M_stretch_195 : decode b_M_stretch 195 = .ok (.iconst 2, 1) := by decide +kernel
theorem d_M_stretch_196 : decode b_M_stretch 196 = .ok (.iastore, 1) := by decide +kernel
theorem d_M_stretch_197 : decode b_M_stretch 197 = .ok (.iload_n 1, 1) := by decide +kernel
theorem d_M_stretch_198 : decode b_M_stretch 198 = .ok (.bipush 65, 2) := by decide +kernel
theorem d_M_stretch_200 : decode b_M_stretch 200 = .ok (.if_icmp .eq 9, 3) := by decide +kernel
theorem d_M_stretch_203 : decode b_M_stretch 203 = .ok (.iload_n 1, 1) := by decide +kernel
theorem d_M_stretch_204 : decode b_M_stretch 204 = .ok (.bipush 66, 2) := by decide +kernel
theorem d_M_stretch_206 : decode b_M_stretch 206 = .ok (.if_icmp .ne 10, 3) := by decide +kernel
theorem d_M_stretch_209 : decode b_M_stretch 209 = .ok (.aload_n 0, 1) := by decide +kernel
theorem d_M_stretch_210 : decode b_M_stretch 210 = .ok (.getfield 13, 3) := by decide +kernel
theorem d_M_stretch_213 : decode b_M_stretch 213 = .ok (.iconst 2, 1) := by decide +kernel
theorem d_M_stretch_214 : decode b_M_stretch 214 = .ok (.iconst 0, 1) := by decide +kernel
theorem d_M_stretch_215 : decode b_M_stretch 215 = .ok (.iastore, 1) := by decide +kernel
theorem d_M_stretch_216 : decode b_M_stretch 216 = .ok (.iload_n 1, 1) := by decide +kernel
theorem d_M_stretch_217 : decode b_M_stretch 217 = .ok (.bipush 51, 2) := by decide +kernel
theorem d_M_stretch_219 : decode b_M_stretch 219 = .ok (.if_icmp .eq 15, 3) := by decide +kernel
theorem d_M_stretch_222 : decode b_M_stretch 222 = .ok (.iload_n 1, 1) := by decide +kernel
theorem d_M_stretch_223 : decode b_M_stretch 223 = .ok (.bipush 69, 2) := by decide +kernel
theorem d_M_stretch_225 : decode b_M_stretch 225 = .ok (.if_icmp .eq 9, 3) := by decide +kernel
theorem d_M_stretch_228 : decode b_M_stretch 228 = .ok (.iload_n 1, 1) := by decide +kernel
theorem d_M_stretch_229 : decode b_M_stretch 229 = .ok (.bipush 72, 2) := by decide +kernel
theorem d_M_stretch_231 : decode b_M_stretch 231 = .ok (.if_icmp .ne 10, 3) := by decide +kernel
theorem d_M_stretch_234 : decode b_M_stretch 234 = .ok (.aload_n 0, 1) := by decide +kernel
theorem d_M_stretch_235 : decode b_M_stretch 235 = .ok (.getfield 13, 3) := by decide +kernel
theorem d_M_stretch_238 : decode b_M_stretch 238 = .ok (.iconst 3, 1) := by decide +kernel
theorem d_M_stretch_239 : decode b_M_stretch 239 = .ok (.iconst 0, 1) := by decide +kernel
theorem d_M_stretch_240 : decode b_M_stretch 240 = .ok (.iastore, 1) := by decide +kernel
theorem d_M_stretch_241 : decode b_M_stretch 241 = .ok (.aload_n 0, 1) := by decide +kernel
theorem d_M_stretch_242 : decode b_M_stretch 242 = .ok (.iload_n 1, 1) := by decide +kernel
theorem d_M_stretch_243 : decode b_M_stretch 243 = .ok (.invokestatic 174, 3) := by decide +kernel
theorem d_M_stretch_246 : decode b_M_stretch 246 = .ok (.invokevirtual 177, 3) := by decide +kernel
theorem d_M_stretch_249 : decode b_M_stretch 249 = .ok (.ireturn, 1) := by decide +kernel
theorem d_M_forget_0 : decode b_M_forget 0 = .ok (.aload_n 0, 1) := by decide +kernel
theorem d_M_forget_1 : decode b_M_forget 1 = .ok (.iconst 0, 1) := by decide +kernel
theorem d_M_forget_2 : decode b_M_forget 2 = .ok (.putfield 180, 3) := by decide +kernel
theorem d_M_forget_5 : decode b_M_forget 5 = .ok (.return_, 1) := by decide +kernel
theorem d_M_segment_0 : decode b_M_segment 0 = .ok (.iload_n 1, 1) := by decide +kernel
theorem d_M_segment_1 : decode b_M_segment 1 = .ok (.ifCond .lt 41, 3) := by decide +kernel
theorem d_M_segment_4 : decode b_M_segment 4 = .ok (.iload_n 1, 1) := by decide +kernel
theorem d_M_segment_5 : decode b_M_segment 5 = .ok (.bipush 7, 2) := by decide +kernel
theorem d_M_segment_7 : decode b_M_segment 7 = .ok (.if_icmp .gt 35, 3) := by decide +kernel
theorem d_M_segment_10 : decode b_M_segment 10 = .ok (.iload_n 2, 1) := by decide +kernel
theorem d_M_segment_11 : decode b_M_segment 11 = .ok (.ifCond .lt 31, 3) := by decide +kernel
theorem d_M_segment_14 : decode b_M_segment 14 = .ok (.iload_n 3, 1) := by decide +kernel
theorem d_M_segment_15 : decode b_M_segment 15 = .ok (.ifCond .lt 27, 3) := by decide +kernel
theorem d_M_segment_18 : decode b_M_segment 18 = .ok (.iload_n 2, 1) := by decide +kernel
theorem d_M_segment_19 : decode b_M_segment 19 = .ok (.i2l, 1) := by decide +kernel
theorem d_M_segment_20 : decode b_M_segment 20 = .ok (.iload_n 3, 1) := by decide +kernel
theorem d_M_segment_21 : decode b_M_segment 21 = .ok (.i2l, 1) := by decide +kernel
theorem d_M_segment_22 : decode b_M_segment 22 = .ok (.ladd, 1) := by decide +kernel
theorem d_M_segment_23 : decode b_M_segment 23 = .ok (.ldc2_w 184, 3) := by decide +kernel
theorem d_M_segment_26 : decode b_M_segment 26 = .ok (.lcmp, 1) := by decide +kernel
theorem d_M_segment_27 : decode b_M_segment 27 = .ok (.ifCond .gt 15, 3) := by decide +kernel
theorem d_M_segment_30 : decode b_M_segment 30 = .ok (.iload 4, 2) := by decide +kernel
theorem d_M_segment_32 : decode b_M_segment 32 = .ok (.ifCond .lt 10, 3) := by decide +kernel
theorem d_M_segment_35 : decode b_M_segment 35 = .ok (.iload 4, 2) := by decide +kernel
theorem d_M_segment_37 : decode b_M_segment 37 = .ok (.bipush 7, 2) := by decide +kernel
theorem d_M_segment_39 : decode b_M_segment 39 = .ok (.if_icmp .le 5, 3) := by decide +kernel
theorem d_M_segment_42 : decode b_M_segment 42 = .ok (.iconst 0, 1) := by decide +kernel
theorem d_M_segment_43 : decode b_M_segment 43 = .ok (.ireturn, 1) := by decide +kernel
theorem d_M_segment_44 : decode b_M_segment 44 = .ok (.aload_n 0, 1) := by decide +kernel
theorem d_M_segment_45 : decode b_M_segment 45 = .ok (.getfield 25, 3) := by decide +kernel
theorem d_M_segment_48 : decode b_M_segment 48 = .ok (.iload_n 1, 1) := by decide +kernel
theorem d_M_segment_49 : decode b_M_segment 49 = .ok (.iload_n 2, 1) := by decide +kernel
theorem d_M_segment_50 : decode b_M_segment 50 = .ok (.iastore, 1) := by decide +kernel
theorem d_M_segment_51 : decode b_M_segment 51 = .ok (.aload_n 0, 1) := by decide +kernel
theorem d_M_segment_52 : decode b_M_segment 52 = .ok (.getfield 28, 3) := by decide +kernel
theorem d_M_segment_55 : decode b_M_segment 55 = .ok (.iload_n 1, 1) := by decide +kernel
theorem d_M_segment_56 : decode b_M_segment 56 = .ok (.iload_n 3, 1) := by decide +kernel
theorem d_M_segment_57 : decode b_M_segment 57 = .ok (.iastore, 1) := by decide +kernel
theorem d_M_segment_58 : decode b_M_segment 58 = .ok (.aload_n 0, 1) := by decide +kernel
theorem d_M_segment_59 : decode b_M_segment 59 = .ok (.getfield 31, 3) := by decide +kernel
theorem d_M_segment_62 : decode b_M_segment 62 = .ok (.iload_n 1, 1) := by decide +kernel
theorem d_M_segment_63 : decode b_M_segment 63 = .ok (.iload 4, 2) := by decide +kernel
theorem d_M_segment_65 : decode b_M_segment 65 = .ok (.iastore, 1) := by decide +kernel
theorem d_M_segment_66 : decode b_M_segment 66 = .ok (.aload_n 0, 1) := by decide +kernel
theorem d_M_segment_67 : decode b_M_segment 67 = .ok (.invokevirtual 186, 3) := by decide +kernel
theorem d_M_segment_70 : decode b_M_segment 70 = .ok (.iconst 1, 1) := by decide +kernel
theorem d_M_segment_71 : decode b_M_segment 71 = .ok (.ireturn, 1) := by decide +kernel
theorem d_M_mark_0 : decode b_M_mark 0 = .ok (.iload_n 1, 1) := by decide +kernel
theorem d_M_mark_1 : decode b_M_mark 1 = .ok (.ifCond .lt 15, 3) := by decide +kernel
theorem d_M_mark_4 : decode b_M_mark 4 = .ok (.iload_n 1, 1) := by decide +kernel
theorem d_M_mark_5 : decode b_M_mark 5 = .ok (.ldc 16, 2) := by decide +kernel
theorem d_M_mark_7 : decode b_M_mark 7 = .ok (.if_icmp .ge 9, 3) := by decide +kernel
theorem d_M_mark_10 : decode b_M_mark 10 = .ok (.iload_n 1, 1) := by decide +kernel
theorem d_M_mark_11 : decode b_M_mark 11 = .ok (.iconst 2, 1) := by decide +kernel
theorem d_M_mark_12 : decode b_M_mark 12 = .ok (.irem, 1) := by decide +kernel
theorem d_M_mark_13 : decode b_M_mark 13 = .ok (.ifCond .eq 5, 3) := by decide +kernel
theorem d_M_mark_16 : decode b_M_mark 16 = .ok (.iconst 0, 1) := by decide +kernel
theorem d_M_mark_17 : decode b_M_mark 17 = .ok (.ireturn, 1) := by decide +kernel
theorem d_M_mark_18 : decode b_M_mark 18 = .ok (.aload_n 0, 1) := by decide +kernel
theorem d_M_mark_19 : decode b_M_mark 19 = .ok (.getfield 21, 3) := by decide +kernel
theorem d_M_mark_22 : decode b_M_mark 22 = .ok (.iload_n 1, 1) := by decide +kernel
theorem d_M_mark_23 : decode b_M_mark 23 = .ok (.iconst 2, 1) := by decide +kernel
theorem d_M_mark_24 : decode b_M_mark 24 = .ok (.idiv, 1) := by decide +kernel
theorem d_M_mark_25 : decode b_M_mark 25 = .ok (.iload_n 2, 1) := by decide +kernel
theorem d_M_mark_26 : decode b_M_mark 26 = .ok (.bastore, 1) := by decide +kernel
theorem d_M_mark_27 : decode b_M_mark 27 = .ok (.aload_n 0, 1) := by decide +kernel
theorem d_M_mark_28 : decode b_M_mark 28 = .ok (.invokevirtual 186, 3) := by decide +kernel
theorem d_M_mark_31 : decode b_M_mark 31 = .ok (.iconst 1, 1) := by decide +kernel
theorem d_M_mark_32 : decode b_M_mark 32 = .ok (.ireturn, 1) := by decide +kernel
theorem d_M_marking_0 : decode b_M_marking 0 = .ok (.aload_n 0, 1) := by decide +kernel
theorem d_M_marking_1 : decode b_M_marking 1 = .ok (.iload_n 1, 1) := by decide +kernel
theorem d_M_marking_2 : decode b_M_marking 2 = .ok (.putfield 189, 3) := by decide +kernel
theorem d_M_marking_5 : decode b_M_marking 5 = .ok (.aload_n 0, 1) := by decide +kernel
theorem d_M_marking_6 : decode b_M_marking 6 = .ok (.invokevirtual 186, 3) := by decide +kernel
theorem d_M_marking_9 : decode b_M_marking 9 = .ok (.return_, 1) := by decide +kernel
theorem d_M_poke_0 : decode b_M_poke 0 = .ok (.iload_n 2, 1) := by decide +kernel
theorem d_M_poke_1 : decode b_M_poke 1 = .ok (.iconst 1, 1) := by decide +kernel
theorem d_M_poke_2 : decode b_M_poke 2 = .ok (.if_icmp .lt 21, 3) := by decide +kernel
theorem d_M_poke_5 : decode b_M_poke 5 = .ok (.iload_n 2, 1) := by decide +kernel
theorem d_M_poke_6 : decode b_M_poke 6 = .ok (.bipush 8, 2) := by decide +kernel
theorem d_M_poke_8 : decode b_M_poke 8 = .ok (.if_icmp .gt 15, 3) := by decide +kernel
theorem d_M_poke_11 : decode b_M_poke 11 = .ok (.iload_n 1, 1) := by decide +kernel
theorem d_M_poke_12 : decode b_M_poke 12 = .ok (.ifCond .lt 11, 3) := by decide +kernel
theorem d_M_poke_15 : decode b_M_poke 15 = .ok (.iload_n 1, 1) := by decide +kernel
theorem d_M_poke_16 : decode b_M_poke 16 = .ok (.ldc 16, 2) := by decide +kernel
theorem d_M_poke_18 : decode b_M_poke 18 = .ok (.iload_n 2, 1) := by decide +kernel
theorem d_M_poke_19 : decode b_M_poke 19 = .ok (.isub, 1) := by decide +kernel
theorem d_M_poke_20 : decode b_M_poke 20 = .ok (.if_icmp .le 5, 3) := by decide +kernel
theorem d_M_poke_23 : decode b_M_poke 23 = .ok (.iconst 0, 1) := by decide +kernel
theorem d_M_poke_24 : decode b_M_poke 24 = .ok (.ireturn, 1) := by decide +kernel
theorem d_M_poke_25 : decode b_M_poke 25 = .ok (.iconst 0, 1) := by decide +kernel
theorem d_M_poke_26 : decode b_M_poke 26 = .ok (.istore 5, 2) := by decide +kernel
theorem d_M_poke_28 : decode b_M_poke 28 = .ok (.iload 5, 2) := by decide +kernel
theorem d_M_poke_30 : decode b_M_poke 30 = .ok (.iload_n 2, 1) := by decide +kernel
theorem d_M_poke_31 : decode b_M_poke 31 = .ok (.if_icmp .ge 33, 3) := by decide +kernel
theorem d_M_poke_34 : decode b_M_poke 34 = .ok (.aload_n 0, 1) := by decide +kernel
theorem d_M_poke_35 : decode b_M_poke 35 = .ok (.getfield 17, 3) := by decide +kernel
theorem d_M_poke_38 : decode b_M_poke 38 = .ok (.iload_n 1, 1) := by decide +kernel
theorem d_M_poke_39 : decode b_M_poke 39 = .ok (.iload 5, 2) := by decide +kernel
theorem d_M_poke_41 : decode b_M_poke 41 = .ok (.iadd, 1) := by decide +kernel
theorem d_M_poke_42 : decode b_M_poke 42 = .ok (.lload_n 3, 1) := by decide +kernel
theorem d_M_poke_43 : decode b_M_poke 43 = .ok (.bipush 56, 2) := by decide +kernel
theorem d_M_poke_45 : decode b_M_poke 45 = .ok (.bipush 8, 2) := by decide +kernel
theorem d_M_poke_47 : decode b_M_poke 47 = .ok (.iload 5, 2) := by decide +kernel
theorem d_M_poke_49 : decode b_M_poke 49 = .ok (.imul, 1) := by decide +kernel
theorem d_M_poke_50 : decode b_M_poke 50 = .ok (.isub, 1) := by decide +kernel
theorem d_M_poke_51 : decode b_M_poke 51 = .ok (.lshr, 1) := by decide +kernel
theorem d_M_poke_52 : decode b_M_poke 52 = .ok (.ldc2_w 193, 3) := by decide +kernel
theorem d_M_poke_55 : decode b_M_poke 55 = .ok (.land, 1) := by decide +kernel
theorem d_M_poke_56 : decode b_M_poke 56 = .ok (.l2i, 1) := by decide +kernel
theorem d_M_poke_57 : decode b_M_poke 57 = .ok (.iastore, 1) := by decide +kernel
theorem d_M_poke_58 : decode b_M_poke 58 = .ok (.iinc 5 1, 3) := by decide +kernel
theorem d_M_poke_61 : decode b_M_poke 61 = .ok (.goto (-33), 3) := by decide +kernel
theorem d_M_poke_64 : decode b_M_poke 64 = .ok (.aload_n 0, 1) := by decide +kernel
theorem d_M_poke_65 : decode b_M_poke 65 = .ok (.invokevirtual 186, 3) := by decide +kernel
theorem d_M_poke_68 : decode b_M_poke 68 = .ok (.iconst 1, 1) := by decide +kernel
theorem d_M_poke_69 : decode b_M_poke 69 = .ok (.ireturn, 1) := by decide +kernel
theorem d_M_peek_0 : decode b_M_peek 0 = .ok (.iload_n 1, 1) := by decide +kernel
theorem d_M_peek_1 : decode b_M_peek 1 = .ok (.ifCond .lt 18, 3) := by decide +kernel
theorem d_M_peek_4 : decode b_M_peek 4 = .ok (.iload_n 1, 1) := by decide +kernel
theorem d_M_peek_5 : decode b_M_peek 5 = .ok (.ldc 16, 2) := by decide +kernel
theorem d_M_peek_7 : decode b_M_peek 7 = .ok (.if_icmp .ge 12, 3) := by decide +kernel
theorem d_M_peek_10 : decode b_M_peek 10 = .ok (.aload_n 0, 1) := by decide +kernel
theorem d_M_peek_11 : decode b_M_peek 11 = .ok (.getfield 17, 3) := by decide +kernel
theorem d_M_peek_14 : decode b_M_peek 14 = .ok (.iload_n 1, 1) := by decide +kernel
theorem d_M_peek_15 : decode b_M_peek 15 = .ok (.iaload, 1) := by decide +kernel
theorem d_M_peek_16 : decode b_M_peek 16 = .ok (.goto 4, 3) := by decide +kernel
theorem d_M_peek_19 : decode b_M_peek 19 = .ok (.iconst (-1), 1) := by decide +kernel
theorem d_M_peek_20 : decode b_M_peek 20 = .ok (.ireturn, 1) := by decide +kernel
theorem d_M_set_0 : decode b_M_set 0 = .ok (.iload_n 1, 1) := by decide +kernel
theorem d_M_set_1 : decode b_M_set 1 = .ok (.iconst 1, 1) := by decide +kernel
theorem d_M_set_2 : decode b_M_set 2 = .ok (.if_icmp .lt 22, 3) := by decide +kernel
theorem d_M_set_5 : decode b_M_set 5 = .ok (.iload_n 1, 1) := by decide +kernel
theorem d_M_set_6 : decode b_M_set 6 = .ok (.bipush 33, 2) := by decide +kernel
theorem d_M_set_8 : decode b_M_set 8 = .ok (.if_icmp .gt 16, 3) := by decide +kernel
theorem d_M_set_11 : decode b_M_set 11 = .ok (.iload_n 1, 1) := by decide +kernel
theorem d_M_set_12 : decode b_M_set 12 = .ok (.bipush 32, 2) := by decide +kernel
theorem d_M_set_14 : decode b_M_set 14 = .ok (.if_icmp .ne 12, 3) := by decide +kernel
theorem d_M_set_17 : decode b_M_set 17 = .ok (.iload_n 2, 1) := by decide +kernel
theorem d_M_set_18 : decode b_M_set 18 = .ok (.iconst 1, 1) := by decide +kernel
theorem d_M_set_19 : decode b_M_set 19 = .ok (.iand, 1) := by decide +kernel
theorem d_M_set_20 : decode b_M_set 20 = .ok (.iconst 1, 1) := by decide +kernel
theorem d_M_set_21 : decode b_M_set 21 = .ok (.if_icmp .ne 5, 3) := by decide +kernel
theorem d_M_set_24 : decode b_M_set 24 = .ok (.iconst 0, 1) := by decide +kernel
theorem d_M_set_25 : decode b_M_set 25 = .ok (.ireturn, 1) := by decide +kernel
theorem d_M_set_26 : decode b_M_set 26 = .ok (.iload_n 1, 1) := by decide +kernel
theorem d_M_set_27 : decode b_M_set 27 = .ok (.bipush 32, 2) := by decide +kernel
theorem d_M_set_29 : decode b_M_set 29 = .ok (.if_icmp .ge 10, 3) := by decide +kernel
theorem d_M_set_32 : decode b_M_set 32 = .ok (.aload_n 0, 1) := by decide +kernel
theorem d_M_set_33 : decode b_M_set 33 = .ok (.getfield 37, 3) := by decide +kernel
theorem d_M_set_36 : decode b_M_set 36 = .ok (.iload_n 1, 1) := by decide +kernel
theorem d_M_set_37 : decode b_M_set 37 = .ok (.iload_n 2, 1) := by decide +kernel
theorem d_M_set_38 : decode b_M_set 38 = .ok (.iastore, 1) := by decide +kernel
theorem d_M_set_39 : decode b_M_set 39 = .ok (.iload_n 1, 1) := by decide +kernel
theorem d_M_set_40 : decode b_M_set 40 = .ok (.bipush 32, 2) := by decide +kernel
theorem d_M_set_42 : decode b_M_set 42 = .ok (.if_icmp .ne 8, 3) := by decide +kernel
theorem d_M_set_45 : decode b_M_set 45 = .ok (.aload_n 0, 1) := by decide +kernel
theorem d_M_set_46 : decode b_M_set 46 = .ok (.iload_n 2, 1) := by decide +kernel
theorem d_M_set_47 : decode b_M_set 47 = .ok (.putfield 195, 3) := by decide +kernel
theorem d_M_set_50 : decode b_M_set 50 = .ok (.iload_n 1, 1) := by decide +kernel
theorem d_M_set_51 : decode b_M_set 51 = .ok (.bipush 33, 2) := by decide +kernel
theorem d_M_set_53 : decode b_M_set 53 = .ok (.if_icmp .ne 13, 3) := by decide +kernel
theorem d_M_set_56 : decode b_M_set 56 = .ok (.aload_n 0, 1) := by decide +kernel
theorem d_M_set_57 : decode b_M_set 57 = .ok (.iconst 0, 1) := by decide +kernel
theorem d_M_set_58 : decode b_M_set 58 = .ok (.putfield 198, 3) := by decide +kernel
theorem d_M_set_61 : decode b_M_set 61 = .ok (.aload_n 0, 1) := by decide +kernel
theorem d_M_set_62 : decode b_M_set 62 = .ok (.iconst 0, 1) := by decide +kernel
theorem d_M_set_63 : decode b_M_set 63 = .ok (.putfield 201, 3) := by decide +kernel
theorem d_M_set_66 : decode b_M_set 66 = .ok (.aload_n 0, 1) := by decide +kernel
theorem d_M_set_67 : decode b_M_set 67 = .ok (.invokevirtual 186, 3) := by decide +kernel
theorem d_M_set_70 : decode b_M_set 70 = .ok (.iconst 1, 1) := by decide +kernel
theorem d_M_set_71 : decode b_M_set 71 = .ok (.ireturn, 1) := by decide +kernel
theorem d_M_get_0 : decode b_M_get 0 = .ok (.iload_n 1, 1) := by decide +kernel
theorem d_M_get_1 : decode b_M_get 1 = .ok (.bipush 32, 2) := by decide +kernel
theorem d_M_get_3 : decode b_M_get 3 = .ok (.if_icmp .ne 10, 3) := by decide +kernel
theorem d_M_get_6 : decode b_M_get 6 = .ok (.aload_n 0, 1) := by decide +kernel
theorem d_M_get_7 : decode b_M_get 7 = .ok (.getfield 195, 3) := by decide +kernel
theorem d_M_get_10 : decode b_M_get 10 = .ok (.goto 23, 3) := by decide +kernel
theorem d_M_get_13 : decode b_M_get 13 = .ok (.iload_n 1, 1) := by decide +kernel
theorem d_M_get_14 : decode b_M_get 14 = .ok (.ifCond .le 18, 3) := by decide +kernel
theorem d_M_get_17 : decode b_M_get 17 = .ok (.iload_n 1, 1) := by decide +kernel
theorem d_M_get_18 : decode b_M_get 18 = .ok (.bipush 32, 2) := by decide +kernel
theorem d_M_get_20 : decode b_M_get 20 = .ok (.if_icmp .ge 12, 3) := by decide +kernel
theorem d_M_get_23 : decode b_M_get 23 = .ok (.aload_n 0, 1) := by decide +kernel
theorem d_M_get_24 : decode b_M_get 24 = .ok (.getfield 37, 3) := by decide +kernel
theorem d_M_get_27 : decode b_M_get 27 = .ok (.iload_n 1, 1) := by decide +kernel
theorem d_M_get_28 : decode b_M_get 28 = .ok (.iaload, 1) := by decide +kernel
theorem d_M_get_29 : decode b_M_get 29 = .ok (.goto 4, 3) := by decide +kernel
theorem d_M_get_32 : decode b_M_get 32 = .ok (.iconst 0, 1) := by decide +kernel
theorem d_M_get_33 : decode b_M_get 33 = .ok (.ireturn, 1) := by decide +kernel
theorem d_M_input_0 : decode b_M_input 0 = .ok (.iload_n 1, 1) := by decide +kernel
theorem d_M_input_1 : decode b_M_input 1 = .ok (.iconst 1, 1) := by decide +kernel
theorem d_M_input_2 : decode b_M_input 2 = .ok (.if_icmp .lt 21, 3) := by decide +kernel
theorem d_M_input_5 : decode b_M_input 5 = .ok (.iload_n 1, 1) := by decide +kernel
theorem d_M_input_6 : decode b_M_input 6 = .ok (.bipush 8, 2) := by decide +kernel
theorem d_M_input_8 : decode b_M_input 8 = .ok (.if_icmp .gt 15, 3) := by decide +kernel
theorem d_M_input_11 : decode b_M_input 11 = .ok (.aload_n 0, 1) := by decide +kernel
theorem d_M_input_12 : decode b_M_input 12 = .ok (.getfield 204, 3) := by decide +kernel
theorem d_M_input_15 : decode b_M_input 15 = .ok (.iload_n 1, 1) := by decide +kernel
theorem d_M_input_16 : decode b_M_input 16 = .ok (.iadd, 1) := by decide +kernel
theorem d_M_input_17 : decode b_M_input 17 = .ok (.sipush 1000, 3) := by decide +kernel
theorem d_M_input_20 : decode b_M_input 20 = .ok (.if_icmp .le 5, 3) := by decide +kernel
theorem d_M_input_23 : decode b_M_input 23 = .ok (.iconst 0, 1) := by decide +kernel
theorem d_M_input_24 : decode b_M_input 24 = .ok (.ireturn, 1) := by decide +kernel
theorem d_M_input_25 : decode b_M_input 25 = .ok (.iconst 0, 1) := by decide +kernel
theorem d_M_input_26 : decode b_M_input 26 = .ok (.istore 4, 2) := by decide +kernel
theorem d_M_input_28 : decode b_M_input 28 = .ok (.iload 4, 2) := by decide +kernel
theorem d_M_input_30 : decode b_M_input 30 = .ok (.iload_n 1, 1) := by decide +kernel
theorem d_M_input_31 : decode b_M_input 31 = .ok (.if_icmp .ge 43, 3) := by decide +kernel
theorem d_M_input_34 : decode b_M_input 34 = .ok (.aload_n 0, 1) := by decide +kernel
theorem d_M_input_35 : decode b_M_input 35 = .ok (.getfield 40, 3) := by decide +kernel
theorem d_M_input_38 : decode b_M_input 38 = .ok (.aload_n 0, 1) := by decide +kernel
theorem d_M_input_39 : decode b_M_input 39 = .ok (.getfield 204, 3) := by decide +kernel
theorem d_M_input_42 : decode b_M_input 42 = .ok (.lload_n 2, 1) := by decide +kernel
theorem d_M_input_43 : decode b_M_input 43 = .ok (.bipush 56, 2) := by decide +kernel
theorem d_M_input_45 : decode b_M_input 45 = .ok (.bipush 8, 2) := by decide +kernel
theorem d_M_input_47 : decode b_M_input 47 = .ok (.iload 4, 2) := by decide +kernel
theorem d_M_input_49 : decode b_M_input 49 = .ok (.imul, 1) := by decide +kernel
theorem d_M_input_50 : decode b_M_input 50 = .ok (.isub, 1) := by decide +kernel
theorem d_M_input_51 : decode b_M_input 51 = .ok (.lshr, 1) := by decide +kernel
theorem d_M_input_52 : decode b_M_input 52 = .ok (.ldc2_w 193, 3) := by decide +kernel
theorem d_M_input_55 : decode b_M_input 55 = .ok (.land, 1) := by decide +kernel
theorem d_M_input_56 : decode b_M_input 56 = .ok (.l2i, 1) := by decide +kernel
theorem d_M_input_57 : decode b_M_input 57 = .ok (.iastore, 1) := by decide +kernel
theorem d_M_input_58 : decode b_M_input 58 = .ok (.aload_n 0, 1) := by decide +kernel
theorem d_M_input_59 : decode b_M_input 59 = .ok (.dup, 1) := by decide +kernel
theorem d_M_input_60 : decode b_M_input 60 = .ok (.getfield 204, 3) := by decide +kernel
theorem d_M_input_63 : decode b_M_input 63 = .ok (.iconst 1, 1) := by decide +kernel
theorem d_M_input_64 : decode b_M_input 64 = .ok (.iadd, 1) := by decide +kernel
theorem d_M_input_65 : decode b_M_input 65 = .ok (.putfield 204, 3) := by decide +kernel
theorem d_M_input_68 : decode b_M_input 68 = .ok (.iinc 4 1, 3) := by decide +kernel
theorem d_M_input_71 : decode b_M_input 71 = .ok (.goto (-43), 3) := by decide +kernel
theorem d_M_input_74 : decode b_M_input 74 = .ok (.aload_n 0, 1) := by decide +kernel
theorem d_M_input_75 : decode b_M_input 75 = .ok (.invokevirtual 186, 3) := by decide +kernel
theorem d_M_input_78 : decode b_M_input 78 = .ok (.iconst 1, 1) := by decide +kernel
theorem d_M_input_79 : decode b_M_input 79 = .ok (.ireturn, 1) := by decide +kernel
theorem d_M_haltAt_0 : decode b_M_haltAt 0 = .ok (.iconst 0, 1) := by decide +kernel
theorem d_M_haltAt_1 : decode b_M_haltAt 1 = .ok (.istore_n 2, 1) := by decide +kernel
theorem d_M_haltAt_2 : decode b_M_haltAt 2 = .ok (.iload_n 2, 1) := by decide +kernel
theorem d_M_haltAt_3 : decode b_M_haltAt 3 = .ok (.aload_n 0, 1) := by decide +kernel
theorem d_M_haltAt_4 : decode b_M_haltAt 4 = .ok (.getfield 207, 3) := by decide +kernel
theorem d_M_haltAt_7 : decode b_M_haltAt 7 = .ok (.if_icmp .ge 21, 3) := by decide +kernel
theorem d_M_haltAt_10 : decode b_M_haltAt 10 = .ok (.aload_n 0, 1) := by decide +kernel
theorem d_M_haltAt_11 : decode b_M_haltAt 11 = .ok (.getfield 34, 3) := by decide +kernel
theorem d_M_haltAt_14 : decode b_M_haltAt 14 = .ok (.iload_n 2, 1) := by decide +kernel
theorem d_M_haltAt_15 : decode b_M_haltAt 15 = .ok (.iaload, 1) := by decide +kernel
theorem d_M_haltAt_16 : decode b_M_haltAt 16 = .ok (.iload_n 1, 1) := by decide +kernel
theorem d_M_haltAt_17 : decode b_M_haltAt 17 = .ok (.if_icmp .ne 5, 3) := by decide +kernel
theorem d_M_haltAt_20 : decode b_M_haltAt 20 = .ok (.iload_n 2, 1) := by decide +kernel
theorem d_M_haltAt_21 : decode b_M_haltAt 21 = .ok (.ireturn, 1) := by decide +kernel
theorem d_M_haltAt_22 : decode b_M_haltAt 22 = .ok (.iinc 2 1, 3) := by decide +kernel
theorem d_M_haltAt_25 : decode b_M_haltAt 25 = .ok (.goto (-23), 3) := by decide +kernel
theorem d_M_haltAt_28 : decode b_M_haltAt 28 = .ok (.iconst (-1), 1) := by decide +kernel
theorem d_M_haltAt_29 : decode b_M_haltAt 29 = .ok (.ireturn, 1) := by decide +kernel
theorem d_M_halt_0 : decode b_M_halt 0 = .ok (.iload_n 1, 1) := by decide +kernel
theorem d_M_halt_1 : decode b_M_halt 1 = .ok (.ifCond .lt 9, 3) := by decide +kernel
theorem d_M_halt_4 : decode b_M_halt 4 = .ok (.iload_n 1, 1) := by decide +kernel
theorem d_M_halt_5 : decode b_M_halt 5 = .ok (.iconst 2, 1) := by decide +kernel
theorem d_M_halt_6 : decode b_M_halt 6 = .ok (.irem, 1) := by decide +kernel
theorem d_M_halt_7 : decode b_M_halt 7 = .ok (.ifCond .eq 5, 3) := by decide +kernel
theorem d_M_halt_10 : decode b_M_halt 10 = .ok (.iconst 0, 1) := by decide +kernel
theorem d_M_halt_11 : decode b_M_halt 11 = .ok (.ireturn, 1) := by decide +kernel
theorem d_M_halt_12 : decode b_M_halt 12 = .ok (.aload_n 0, 1) := by decide +kernel
theorem d_M_halt_13 : decode b_M_halt 13 = .ok (.iload_n 1, 1) := by decide +kernel
theorem d_M_halt_14 : decode b_M_halt 14 = .ok (.invokevirtual 210, 3) := by decide +kernel
theorem d_M_halt_17 : decode b_M_halt 17 = .ok (.istore_n 3, 1) := by decide +kernel
theorem d_M_halt_18 : decode b_M_halt 18 = .ok (.iload_n 2, 1) := by decide +kernel
theorem d_M_halt_19 : decode b_M_halt 19 = .ok (.iload_n 3, 1) := by decide +kernel
theorem d_M_halt_20 : decode b_M_halt 20 = .ok (.iconst (-1), 1) := by decide +kernel
theorem d_M_halt_21 : decode b_M_halt 21 = .ok (.if_icmp .eq 7, 3) := by decide +kernel
theorem d_M_halt_24 : decode b_M_halt 24 = .ok (.iconst 1, 1) := by decide +kernel
theorem d_M_halt_25 : decode b_M_halt 25 = .ok (.goto 4, 3) := by decide +kernel
theorem d_M_halt_28 : decode b_M_halt 28 = .ok (.iconst 0, 1) := by decide +kernel
theorem d_M_halt_29 : decode b_M_halt 29 = .ok (.if_icmp .eq 16, 3) := by decide +kernel
theorem d_M_halt_32 : decode b_M_halt 32 = .ok (.iload_n 2, 1) := by decide +kernel
theorem d_M_halt_33 : decode b_M_halt 33 = .ok (.ifCond .eq 14, 3) := by decide +kernel
theorem d_M_halt_36 : decode b_M_halt 36 = .ok (.aload_n 0, 1) := by decide +kernel
theorem d_M_halt_37 : decode b_M_halt 37 = .ok (.getfield 207, 3) := by decide +kernel
theorem d_M_halt_40 : decode b_M_halt 40 = .ok (.bipush 8, 2) := by decide +kernel
theorem d_M_halt_42 : decode b_M_halt 42 = .ok (.if_icmp .ne 5, 3) := by decide +kernel
theorem d_M_halt_45 : decode b_M_halt 45 = .ok (.iconst 0, 1) := by decide +kernel
theorem d_M_halt_46 : decode b_M_halt 46 = .ok (.ireturn, 1) := by decide +kernel
theorem d_M_halt_47 : decode b_M_halt 47 = .ok (.iload_n 2, 1) := by decide +kernel
theorem d_M_halt_48 : decode b_M_halt 48 = .ok (.ifCond .eq 26, 3) := by decide +kernel
theorem d_M_halt_51 : decode b_M_halt 51 = .ok (.aload_n 0, 1) := by decide +kernel
theorem d_M_halt_52 : decode b_M_halt 52 = .ok (.getfield 34, 3) := by decide +kernel
theorem d_M_halt_55 : decode b_M_halt 55 = .ok (.aload_n 0, 1) := by decide +kernel
theorem d_M_halt_56 : decode b_M_halt 56 = .ok (.getfield 207, 3) := by decide +kernel
theorem d_M_halt_59 : decode b_M_halt 59 = .ok (.iload_n 1, 1) := by decide +kernel
theorem d_M_halt_60 : decode b_M_halt 60 = .ok (.iastore, 1) := by decide +kernel
theorem d_M_halt_61 : decode b_M_halt 61 = .ok (.aload_n 0, 1) := by decide +kernel
theorem d_M_halt_62 : decode b_M_halt 62 = .ok (.dup, 1) := by decide +kernel
theorem d_M_halt_63 : decode b_M_halt 63 = .ok (.getfield 207, 3) := by decide +kernel
theorem d_M_halt_66 : decode b_M_halt 66 = .ok (.iconst 1, 1) := by decide +kernel
theorem d_M_halt_67 : decode b_M_halt 67 = .ok (.iadd, 1) := by decide +kernel
theorem d_M_halt_68 : decode b_M_halt 68 = .ok (.putfield 207, 3) := by decide +kernel
theorem d_M_halt_71 : decode b_M_halt 71 = .ok (.goto 28, 3) := by decide +kernel
theorem d_M_halt_74 : decode b_M_halt 74 = .ok (.aload_n 0, 1) := by decide +kernel
theorem d_M_halt_75 : decode b_M_halt 75 = .ok (.dup, 1) := by decide +kernel
theorem d_M_halt_76 : decode b_M_halt 76 = .ok (.getfield 207, 3) := by decide +kernel
theorem d_M_halt_79 : decode b_M_halt 79 = .ok (.iconst 1, 1) := by decide +kernel
theorem d_M_halt_80 : decode b_M_halt 80 = .ok (.isub, 1) := by decide +kernel
theorem d_M_halt_81 : decode b_M_halt 81 = .ok (.putfield 207, 3) := by decide +kernel
theorem d_M_halt_84 : decode b_M_halt 84 = .ok (.aload_n 0, 1) := by decide +kernel
theorem d_M_halt_85 : decode b_M_halt 85 = .ok (.getfield 34, 3) := by decide +kernel
theorem d_M_halt_88 : decode b_M_halt 88 = .ok (.iload_n 3, 1) := by decide +kernel
theorem d_M_halt_89 : decode b_M_halt 89 = .ok (.aload_n 0, 1) := by decide +kernel
theorem d_M_halt_90 : decode b_M_halt 90 = .ok (.getfield 34, 3) := by decide +kernel
theorem d_M_halt_93 : decode b_M_halt 93 = .ok (.aload_n 0, 1) := by decide +kernel
theorem d_M_halt_94 : decode b_M_halt 94 = .ok (.getfield 207, 3) := by decide +kernel
theorem d_M_halt_97 : decode b_M_halt 97 = .ok (.iaload, 1) := by decide +kernel
theorem d_M_halt_98 : decode b_M_halt 98 = .ok (.iastore, 1) := by decide +kernel
theorem d_M_halt_99 : decode b_M_halt 99 = .ok (.aload_n 0, 1) := by decide +kernel
theorem d_M_halt_100 : decode b_M_halt 100 = .ok (.invokevirtual 186, 3) := by decide +kernel
theorem d_M_halt_103 : decode b_M_halt 103 = .ok (.iconst 1, 1) := by decide +kernel
theorem d_M_halt_104 : decode b_M_halt 104 = .ok (.ireturn, 1) := by decide +kernel
theorem d_M_rightsOf_0 : decode b_M_rightsOf 0 = .ok (.lload_n 1, 1) := by decide +kernel
theorem d_M_rightsOf_1 : decode b_M_rightsOf 1 = .ok (.lconst 0, 1) := by decide +kernel
theorem d_M_rightsOf_2 : decode b_M_rightsOf 2 = .ok (.lcmp, 1) := by decide +kernel
theorem d_M_rightsOf_3 : decode b_M_rightsOf 3 = .ok (.ifCond .lt 11, 3) := by decide +kernel
theorem d_M_rightsOf_6 : decode b_M_rightsOf 6 = .ok (.lload_n 1, 1) := by decide +kernel
theorem d_M_rightsOf_7 : decode b_M_rightsOf 7 = .ok (.ldc2_w 184, 3) := by decide +kernel
theorem d_M_rightsOf_10 : decode b_M_rightsOf 10 = .ok (.lcmp, 1) := by decide +kernel
theorem d_M_rightsOf_11 : decode b_M_rightsOf 11 = .ok (.ifCond .lt 5, 3) := by decide +kernel
theorem d_M_rightsOf_14 : decode b_M_rightsOf 14 = .ok (.iconst 0, 1) := by decide +kernel
theorem d_M_rightsOf_15 : decode b_M_rightsOf 15 = .ok (.ireturn, 1) := by decide +kernel
theorem d_M_rightsOf_16 : decode b_M_rightsOf 16 = .ok (.iconst 0, 1) := by decide +kernel
theorem d_M_rightsOf_17 : decode b_M_rightsOf 17 = .ok (.istore_n 3, 1) := by decide +kernel
theorem d_M_rightsOf_18 : decode b_M_rightsOf 18 = .ok (.iload_n 3, 1) := by decide +kernel
theorem d_M_rightsOf_19 : decode b_M_rightsOf 19 = .ok (.bipush 8, 2) := by decide +kernel
theorem d_M_rightsOf_21 : decode b_M_rightsOf 21 = .ok (.if_icmp .ge 47, 3) := by decide +kernel
theorem d_M_rightsOf_24 : decode b_M_rightsOf 24 = .ok (.lload_n 1, 1) := by decide +kernel
theorem d_M_rightsOf_25 : decode b_M_rightsOf 25 = .ok (.aload_n 0, 1) := by decide +kernel
theorem d_M_rightsOf_26 : decode b_M_rightsOf 26 = .ok (.getfield 25, 3) := by decide +kernel
theorem d_M_rightsOf_29 : decode b_M_rightsOf 29 = .ok (.iload_n 3, 1) := by decide +kernel
theorem d_M_rightsOf_30 : decode b_M_rightsOf 30 = .ok (.iaload, 1) := by decide +kernel
theorem d_M_rightsOf_31 : decode b_M_rightsOf 31 = .ok (.i2l, 1) := by decide +kernel
theorem d_M_rightsOf_32 : decode b_M_rightsOf 32 = .ok (.lcmp, 1) := by decide +kernel
theorem d_M_rightsOf_33 : decode b_M_rightsOf 33 = .ok (.ifCond .lt 29, 3) := by decide +kernel
theorem d_M_rightsOf_36 : decode b_M_rightsOf 36 = .ok (.lload_n 1, 1) := by decide +kernel
theorem d_M_rightsOf_37 : decode b_M_rightsOf 37 = .ok (.aload_n 0, 1) := by decide +kernel
theorem d_M_rightsOf_38 : decode b_M_rightsOf 38 = .ok (.getfield 25, 3) := by decide +kernel
theorem d_M_rightsOf_41 : decode b_M_rightsOf 41 = .ok (.iload_n 3, 1) := by decide +kernel
theorem d_M_rightsOf_42 : decode b_M_rightsOf 42 = .ok (.iaload, 1) := by decide +kernel
theorem d_M_rightsOf_43 : decode b_M_rightsOf 43 = .ok (.aload_n 0, 1) := by decide +kernel
theorem d_M_rightsOf_44 : decode b_M_rightsOf 44 = .ok (.getfield 28, 3) := by decide +kernel
theorem d_M_rightsOf_47 : decode b_M_rightsOf 47 = .ok (.iload_n 3, 1) := by decide +kernel
theorem d_M_rightsOf_48 : decode b_M_rightsOf 48 = .ok (.iaload, 1) := by decide +kernel
theorem d_M_rightsOf_49 : decode b_M_rightsOf 49 = .ok (.iadd, 1) := by decide +kernel
theorem d_M_rightsOf_50 : decode b_M_rightsOf 50 = .ok (.i2l, 1) := by decide +kernel
theorem d_M_rightsOf_51 : decode b_M_rightsOf 51 = .ok (.lcmp, 1) := by decide +kernel
theorem d_M_rightsOf_52 : decode b_M_rightsOf 52 = .ok (.ifCond .ge 10, 3) := by decide +kernel
theorem d_M_rightsOf_55 : decode b_M_rightsOf 55 = .ok (.aload_n 0, 1) := by decide +kernel
theorem d_M_rightsOf_56 : decode b_M_rightsOf 56 = .ok (.getfield 31, 3) := by decide +kernel
theorem d_M_rightsOf_59 : decode b_M_rightsOf 59 = .ok (.iload_n 3, 1) := by decide +kernel
theorem d_M_rightsOf_60 : decode b_M_rightsOf 60 = .ok (.iaload, 1) := by decide +kernel
theorem d_M_rightsOf_61 : decode b_M_rightsOf 61 = .ok (.ireturn, 1) := by decide +kernel
theorem d_M_rightsOf_62 : decode b_M_rightsOf 62 = .ok (.iinc 3 1, 3) := by decide +kernel
theorem d_M_rightsOf_65 : decode b_M_rightsOf 65 = .ok (.goto (-47), 3) := by decide +kernel
theorem d_M_rightsOf_68 : decode b_M_rightsOf 68 = .ok (.iconst 0, 1) := by decide +kernel
theorem d_M_rightsOf_69 : decode b_M_rightsOf 69 = .ok (.ireturn, 1) := by decide +kernel
theorem d_M_isMarked_0 : decode b_M_isMarked 0 = .ok (.lload_n 1, 1) := by decide +kernel
theorem d_M_isMarked_1 : decode b_M_isMarked 1 = .ok (.lconst 0, 1) := by decide +kernel
theorem d_M_isMarked_2 : decode b_M_isMarked 2 = .ok (.lcmp, 1) := by decide +kernel
theorem d_M_isMarked_3 : decode b_M_isMarked 3 = .ok (.ifCond .lt 37, 3) := by decide +kernel
theorem d_M_isMarked_6 : decode b_M_isMarked 6 = .ok (.lload_n 1, 1) := by decide +kernel
theorem d_M_isMarked_7 : decode b_M_isMarked 7 = .ok (.ldc2_w 184, 3) := by decide +kernel
theorem d_M_isMarked_10 : decode b_M_isMarked 10 = .ok (.lcmp, 1) := by decide +kernel
theorem d_M_isMarked_11 : decode b_M_isMarked 11 = .ok (.ifCond .ge 29, 3) := by decide +kernel
theorem d_M_isMarked_14 : decode b_M_isMarked 14 = .ok (.lload_n 1, 1) := by decide +kernel
theorem d_M_isMarked_15 : decode b_M_isMarked 15 = .ok (.ldc2_w 114, 3) := by decide +kernel
theorem d_M_isMarked_18 : decode b_M_isMarked 18 = .ok (.lrem, 1) := by decide +kernel
