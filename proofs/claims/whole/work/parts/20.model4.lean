theorem d_M_serve_69 : decode b_M_serve 69 = .ok (.getfield 263, 3) := by decide +kernel
theorem d_M_serve_72 : decode b_M_serve 72 = .ok (.sipush 2000, 3) := by decide +kernel
theorem d_M_serve_75 : decode b_M_serve 75 = .ok (.if_icmp .ge 7, 3) := by decide +kernel
theorem d_M_serve_78 : decode b_M_serve 78 = .ok (.iconst 1, 1) := by decide +kernel
theorem d_M_serve_79 : decode b_M_serve 79 = .ok (.goto 4, 3) := by decide +kernel
theorem d_M_serve_82 : decode b_M_serve 82 = .ok (.iconst 0, 1) := by decide +kernel
theorem d_M_serve_83 : decode b_M_serve 83 = .ok (.istore_n 2, 1) := by decide +kernel
theorem d_M_serve_84 : decode b_M_serve 84 = .ok (.iload_n 2, 1) := by decide +kernel
theorem d_M_serve_85 : decode b_M_serve 85 = .ok (.ifCond .eq 33, 3) := by decide +kernel
theorem d_M_serve_88 : decode b_M_serve 88 = .ok (.aload_n 0, 1) := by decide +kernel
theorem d_M_serve_89 : decode b_M_serve 89 = .ok (.getfield 43, 3) := by decide +kernel
theorem d_M_serve_92 : decode b_M_serve 92 = .ok (.aload_n 0, 1) := by decide +kernel
theorem d_M_serve_93 : decode b_M_serve 93 = .ok (.getfield 263, 3) := by decide +kernel
theorem d_M_serve_96 : decode b_M_serve 96 = .ok (.aload_n 0, 1) := by decide +kernel
theorem d_M_serve_97 : decode b_M_serve 97 = .ok (.getfield 37, 3) := by decide +kernel
theorem d_M_serve_100 : decode b_M_serve 100 = .ok (.bipush 10, 2) := by decide +kernel
theorem d_M_serve_102 : decode b_M_serve 102 = .ok (.iaload, 1) := by decide +kernel
theorem d_M_serve_103 : decode b_M_serve 103 = .ok (.sipush 255, 3) := by decide +kernel
theorem d_M_serve_106 : decode b_M_serve 106 = .ok (.iand, 1) := by decide +kernel
theorem d_M_serve_107 : decode b_M_serve 107 = .ok (.iastore, 1) := by decide +kernel
theorem d_M_serve_108 : decode b_M_serve 108 = .ok (.aload_n 0, 1) := by decide +kernel
theorem d_M_serve_109 : decode b_M_serve 109 = .ok (.dup, 1) := by decide +kernel
theorem d_M_serve_110 : decode b_M_serve 110 = .ok (.getfield 263, 3) := by decide +kernel
theorem d_M_serve_113 : decode b_M_serve 113 = .ok (.iconst 1, 1) := by decide +kernel
theorem d_M_serve_114 : decode b_M_serve 114 = .ok (.iadd, 1) := by decide +kernel
theorem d_M_serve_115 : decode b_M_serve 115 = .ok (.putfield 263, 3) := by decide +kernel
theorem d_M_serve_118 : decode b_M_serve 118 = .ok (.aload_n 0, 1) := by decide +kernel
theorem d_M_serve_119 : decode b_M_serve 119 = .ok (.bipush 10, 2) := by decide +kernel
theorem d_M_serve_121 : decode b_M_serve 121 = .ok (.iload_n 2, 1) := by decide +kernel
theorem d_M_serve_122 : decode b_M_serve 122 = .ok (.ifCond .eq 10, 3) := by decide +kernel
theorem d_M_serve_125 : decode b_M_serve 125 = .ok (.aload_n 0, 1) := by decide +kernel
theorem d_M_serve_126 : decode b_M_serve 126 = .ok (.getfield 263, 3) := by decide +kernel
theorem d_M_serve_129 : decode b_M_serve 129 = .ok (.goto 4, 3) := by decide +kernel
theorem d_M_serve_132 : decode b_M_serve 132 = .ok (.iconst (-1), 1) := by decide +kernel
theorem d_M_serve_133 : decode b_M_serve 133 = .ok (.invokevirtual 281, 3) := by decide +kernel
theorem d_M_serve_136 : decode b_M_serve 136 = .ok (.goto 112, 3) := by decide +kernel
theorem d_M_serve_139 : decode b_M_serve 139 = .ok (.aload_n 0, 1) := by decide +kernel
theorem d_M_serve_140 : decode b_M_serve 140 = .ok (.getfield 266, 3) := by decide +kernel
theorem d_M_serve_143 : decode b_M_serve 143 = .ok (.aload_n 0, 1) := by decide +kernel
theorem d_M_serve_144 : decode b_M_serve 144 = .ok (.getfield 204, 3) := by decide +kernel
theorem d_M_serve_147 : decode b_M_serve 147 = .ok (.if_icmp .ge 15, 3) := by decide +kernel
theorem d_M_serve_150 : decode b_M_serve 150 = .ok (.aload_n 0, 1) := by decide +kernel
theorem d_M_serve_151 : decode b_M_serve 151 = .ok (.getfield 40, 3) := by decide +kernel
theorem d_M_serve_154 : decode b_M_serve 154 = .ok (.aload_n 0, 1) := by decide +kernel
theorem d_M_serve_155 : decode b_M_serve 155 = .ok (.getfield 266, 3) := by decide +kernel
theorem d_M_serve_158 : decode b_M_serve 158 = .ok (.iaload, 1) := by decide +kernel
theorem d_M_serve_159 : decode b_M_serve 159 = .ok (.goto 4, 3) := by decide +kernel
theorem d_M_serve_162 : decode b_M_serve 162 = .ok (.iconst (-1), 1) := by decide +kernel
theorem d_M_serve_163 : decode b_M_serve 163 = .ok (.istore_n 2, 1) := by decide +kernel
theorem d_M_serve_164 : decode b_M_serve 164 = .ok (.aload_n 0, 1) := by decide +kernel
theorem d_M_serve_165 : decode b_M_serve 165 = .ok (.aload_n 0, 1) := by decide +kernel
theorem d_M_serve_166 : decode b_M_serve 166 = .ok (.getfield 266, 3) := by decide +kernel
theorem d_M_serve_169 : decode b_M_serve 169 = .ok (.aload_n 0, 1) := by decide +kernel
theorem d_M_serve_170 : decode b_M_serve 170 = .ok (.getfield 204, 3) := by decide +kernel
theorem d_M_serve_173 : decode b_M_serve 173 = .ok (.if_icmp .ge 12, 3) := by decide +kernel
theorem d_M_serve_176 : decode b_M_serve 176 = .ok (.aload_n 0, 1) := by decide +kernel
theorem d_M_serve_177 : decode b_M_serve 177 = .ok (.getfield 266, 3) := by decide +kernel
theorem d_M_serve_180 : decode b_M_serve 180 = .ok (.iconst 1, 1) := by decide +kernel
theorem d_M_serve_181 : decode b_M_serve 181 = .ok (.iadd, 1) := by decide +kernel
theorem d_M_serve_182 : decode b_M_serve 182 = .ok (.goto 7, 3) := by decide +kernel
theorem d_M_serve_185 : decode b_M_serve 185 = .ok (.aload_n 0, 1) := by decide +kernel
theorem d_M_serve_186 : decode b_M_serve 186 = .ok (.getfield 266, 3) := by decide +kernel
theorem d_M_serve_189 : decode b_M_serve 189 = .ok (.putfield 266, 3) := by decide +kernel
theorem d_M_serve_192 : decode b_M_serve 192 = .ok (.aload_n 0, 1) := by decide +kernel
theorem d_M_serve_193 : decode b_M_serve 193 = .ok (.bipush 10, 2) := by decide +kernel
theorem d_M_serve_195 : decode b_M_serve 195 = .ok (.iload_n 2, 1) := by decide +kernel
theorem d_M_serve_196 : decode b_M_serve 196 = .ok (.invokevirtual 281, 3) := by decide +kernel
theorem d_M_serve_199 : decode b_M_serve 199 = .ok (.goto 49, 3) := by decide +kernel
theorem d_M_serve_202 : decode b_M_serve 202 = .ok (.aload_n 0, 1) := by decide +kernel
theorem d_M_serve_203 : decode b_M_serve 203 = .ok (.bipush 10, 2) := by decide +kernel
theorem d_M_serve_205 : decode b_M_serve 205 = .ok (.iload_n 1, 1) := by decide +kernel
theorem d_M_serve_206 : decode b_M_serve 206 = .ok (.invokevirtual 281, 3) := by decide +kernel
theorem d_M_serve_209 : decode b_M_serve 209 = .ok (.goto 39, 3) := by decide +kernel
theorem d_M_serve_212 : decode b_M_serve 212 = .ok (.aload_n 0, 1) := by decide +kernel
theorem d_M_serve_213 : decode b_M_serve 213 = .ok (.aload_n 0, 1) := by decide +kernel
theorem d_M_serve_214 : decode b_M_serve 214 = .ok (.getfield 37, 3) := by decide +kernel
theorem d_M_serve_217 : decode b_M_serve 217 = .ok (.bipush 10, 2) := by decide +kernel
theorem d_M_serve_219 : decode b_M_serve 219 = .ok (.iaload, 1) := by decide +kernel
theorem d_M_serve_220 : decode b_M_serve 220 = .ok (.putfield 254, 3) := by decide +kernel
theorem d_M_serve_223 : decode b_M_serve 223 = .ok (.aload_n 0, 1) := by decide +kernel
theorem d_M_serve_224 : decode b_M_serve 224 = .ok (.bipush 8, 2) := by decide +kernel
theorem d_M_serve_226 : decode b_M_serve 226 = .ok (.aload_n 0, 1) := by decide +kernel
theorem d_M_serve_227 : decode b_M_serve 227 = .ok (.getfield 195, 3) := by decide +kernel
theorem d_M_serve_230 : decode b_M_serve 230 = .ok (.invokevirtual 229, 3) := by decide +kernel
theorem d_M_serve_233 : decode b_M_serve 233 = .ok (.pop, 1) := by decide +kernel
theorem d_M_serve_234 : decode b_M_serve 234 = .ok (.goto 14, 3) := by decide +kernel
theorem d_M_serve_237 : decode b_M_serve 237 = .ok (.aload_n 0, 1) := by decide +kernel
theorem d_M_serve_238 : decode b_M_serve 238 = .ok (.bipush 7, 2) := by decide +kernel
theorem d_M_serve_240 : decode b_M_serve 240 = .ok (.aload_n 0, 1) := by decide +kernel
theorem d_M_serve_241 : decode b_M_serve 241 = .ok (.getfield 195, 3) := by decide +kernel
theorem d_M_serve_244 : decode b_M_serve 244 = .ok (.invokevirtual 229, 3) := by decide +kernel
theorem d_M_serve_247 : decode b_M_serve 247 = .ok (.pop, 1) := by decide +kernel
theorem d_M_serve_248 : decode b_M_serve 248 = .ok (.return_, 1) := by decide +kernel
theorem d_M_work_0 : decode b_M_work 0 = .ok (.aload_n 0, 1) := by decide +kernel
theorem d_M_work_1 : decode b_M_work 1 = .ok (.getfield 13, 3) := by decide +kernel
theorem d_M_work_4 : decode b_M_work 4 = .ok (.iconst 0, 1) := by decide +kernel
theorem d_M_work_5 : decode b_M_work 5 = .ok (.iaload, 1) := by decide +kernel
theorem d_M_work_6 : decode b_M_work 6 = .ok (.istore_n 1, 1) := by decide +kernel
theorem d_M_work_7 : decode b_M_work 7 = .ok (.aload_n 0, 1) := by decide +kernel
theorem d_M_work_8 : decode b_M_work 8 = .ok (.getfield 37, 3) := by decide +kernel
theorem d_M_work_11 : decode b_M_work 11 = .ok (.aload_n 0, 1) := by decide +kernel
theorem d_M_work_12 : decode b_M_work 12 = .ok (.getfield 13, 3) := by decide +kernel
theorem d_M_work_15 : decode b_M_work 15 = .ok (.iconst 1, 1) := by decide +kernel
theorem d_M_work_16 : decode b_M_work 16 = .ok (.iaload, 1) := by decide +kernel
theorem d_M_work_17 : decode b_M_work 17 = .ok (.iaload, 1) := by decide +kernel
theorem d_M_work_18 : decode b_M_work 18 = .ok (.istore_n 2, 1) := by decide +kernel
theorem d_M_work_19 : decode b_M_work 19 = .ok (.aload_n 0, 1) := by decide +kernel
theorem d_M_work_20 : decode b_M_work 20 = .ok (.getfield 37, 3) := by decide +kernel
theorem d_M_work_23 : decode b_M_work 23 = .ok (.aload_n 0, 1) := by decide +kernel
theorem d_M_work_24 : decode b_M_work 24 = .ok (.getfield 13, 3) := by decide +kernel
theorem d_M_work_27 : decode b_M_work 27 = .ok (.iconst 2, 1) := by decide +kernel
theorem d_M_work_28 : decode b_M_work 28 = .ok (.iaload, 1) := by decide +kernel
theorem d_M_work_29 : decode b_M_work 29 = .ok (.iaload, 1) := by decide +kernel
theorem d_M_work_30 : decode b_M_work 30 = .ok (.istore_n 3, 1) := by decide +kernel
theorem d_M_work_31 : decode b_M_work 31 = .ok (.aload_n 0, 1) := by decide +kernel
theorem d_M_work_32 : decode b_M_work 32 = .ok (.getfield 13, 3) := by decide +kernel
theorem d_M_work_35 : decode b_M_work 35 = .ok (.iconst 3, 1) := by decide +kernel
theorem d_M_work_36 : decode b_M_work 36 = .ok (.iaload, 1) := by decide +kernel
theorem d_M_work_37 : decode b_M_work 37 = .ok (.istore 4, 2) := by decide +kernel
theorem d_M_work_39 : decode b_M_work 39 = .ok (.aload_n 0, 1) := by decide +kernel
theorem d_M_work_40 : decode b_M_work 40 = .ok (.iconst 0, 1) := by decide +kernel
theorem d_M_work_41 : decode b_M_work 41 = .ok (.putfield 284, 3) := by decide +kernel
theorem d_M_work_44 : decode b_M_work 44 = .ok (.aload_n 0, 1) := by decide +kernel
theorem d_M_work_45 : decode b_M_work 45 = .ok (.getfield 242, 3) := by decide +kernel
theorem d_M_work_48 : decode b_M_work 48 = .ok (.ifCond .ne 16, 3) := by decide +kernel
theorem d_M_work_51 : decode b_M_work 51 = .ok (.aload_n 0, 1) := by decide +kernel
theorem d_M_work_52 : decode b_M_work 52 = .ok (.iload_n 1, 1) := by decide +kernel
theorem d_M_work_53 : decode b_M_work 53 = .ok (.iload 4, 2) := by decide +kernel
theorem d_M_work_55 : decode b_M_work 55 = .ok (.bipush 12, 2) := by decide +kernel
theorem d_M_work_57 : decode b_M_work 57 = .ok (.ishl, 1) := by decide +kernel
theorem d_M_work_58 : decode b_M_work 58 = .ok (.invokevirtual 281, 3) := by decide +kernel
theorem d_M_work_61 : decode b_M_work 61 = .ok (.goto 275, 3) := by decide +kernel
theorem d_M_work_64 : decode b_M_work 64 = .ok (.aload_n 0, 1) := by decide +kernel
theorem d_M_work_65 : decode b_M_work 65 = .ok (.getfield 242, 3) := by decide +kernel
theorem d_M_work_68 : decode b_M_work 68 = .ok (.iconst 1, 1) := by decide +kernel
theorem d_M_work_69 : decode b_M_work 69 = .ok (.if_icmp .ne 21, 3) := by decide +kernel
theorem d_M_work_72 : decode b_M_work 72 = .ok (.aload_n 0, 1) := by decide +kernel
theorem d_M_work_73 : decode b_M_work 73 = .ok (.iload_n 1, 1) := by decide +kernel
theorem d_M_work_74 : decode b_M_work 74 = .ok (.aload_n 0, 1) := by decide +kernel
theorem d_M_work_75 : decode b_M_work 75 = .ok (.getfield 195, 3) := by decide +kernel
theorem d_M_work_78 : decode b_M_work 78 = .ok (.iload 4, 2) := by decide +kernel
theorem d_M_work_80 : decode b_M_work 80 = .ok (.bipush 12, 2) := by decide +kernel
theorem d_M_work_82 : decode b_M_work 82 = .ok (.ishl, 1) := by decide +kernel
theorem d_M_work_83 : decode b_M_work 83 = .ok (.iadd, 1) := by decide +kernel
theorem d_M_work_84 : decode b_M_work 84 = .ok (.invokevirtual 281, 3) := by decide +kernel
theorem d_M_work_87 : decode b_M_work 87 = .ok (.goto 249, 3) := by decide +kernel
theorem d_M_work_90 : decode b_M_work 90 = .ok (.aload_n 0, 1) := by decide +kernel
theorem d_M_work_91 : decode b_M_work 91 = .ok (.getfield 242, 3) := by decide +kernel
theorem d_M_work_94 : decode b_M_work 94 = .ok (.iconst 2, 1) := by decide +kernel
theorem d_M_work_95 : decode b_M_work 95 = .ok (.if_icmp .eq 11, 3) := by decide +kernel
theorem d_M_work_98 : decode b_M_work 98 = .ok (.aload_n 0, 1) := by decide +kernel
theorem d_M_work_99 : decode b_M_work 99 = .ok (.getfield 242, 3) := by decide +kernel
theorem d_M_work_102 : decode b_M_work 102 = .ok (.iconst 3, 1) := by decide +kernel
theorem d_M_work_103 : decode b_M_work 103 = .ok (.if_icmp .ne 54, 3) := by decide +kernel
theorem d_M_work_106 : decode b_M_work 106 = .ok (.aload_n 0, 1) := by decide +kernel
theorem d_M_work_107 : decode b_M_work 107 = .ok (.aload_n 0, 1) := by decide +kernel
theorem d_M_work_108 : decode b_M_work 108 = .ok (.getfield 242, 3) := by decide +kernel
theorem d_M_work_111 : decode b_M_work 111 = .ok (.iconst 2, 1) := by decide +kernel
theorem d_M_work_112 : decode b_M_work 112 = .ok (.if_icmp .ne 13, 3) := by decide +kernel
theorem d_M_work_115 : decode b_M_work 115 = .ok (.aload_n 0, 1) := by decide +kernel
theorem d_M_work_116 : decode b_M_work 116 = .ok (.getfield 195, 3) := by decide +kernel
theorem d_M_work_119 : decode b_M_work 119 = .ok (.iload 4, 2) := by decide +kernel
theorem d_M_work_121 : decode b_M_work 121 = .ok (.iadd, 1) := by decide +kernel
theorem d_M_work_122 : decode b_M_work 122 = .ok (.goto 10, 3) := by decide +kernel
theorem d_M_work_125 : decode b_M_work 125 = .ok (.iload_n 2, 1) := by decide +kernel
theorem d_M_work_126 : decode b_M_work 126 = .ok (.iload 4, 2) := by decide +kernel
theorem d_M_work_128 : decode b_M_work 128 = .ok (.iadd, 1) := by decide +kernel
theorem d_M_work_129 : decode b_M_work 129 = .ok (.bipush (-2), 2) := by decide +kernel
theorem d_M_work_131 : decode b_M_work 131 = .ok (.iand, 1) := by decide +kernel
theorem d_M_work_132 : decode b_M_work 132 = .ok (.putfield 287, 3) := by decide +kernel
theorem d_M_work_135 : decode b_M_work 135 = .ok (.aload_n 0, 1) := by decide +kernel
theorem d_M_work_136 : decode b_M_work 136 = .ok (.iconst 1, 1) := by decide +kernel
theorem d_M_work_137 : decode b_M_work 137 = .ok (.putfield 284, 3) := by decide +kernel
theorem d_M_work_140 : decode b_M_work 140 = .ok (.aload_n 0, 1) := by decide +kernel
theorem d_M_work_141 : decode b_M_work 141 = .ok (.iload_n 1, 1) := by decide +kernel
theorem d_M_work_142 : decode b_M_work 142 = .ok (.aload_n 0, 1) := by decide +kernel
theorem d_M_work_143 : decode b_M_work 143 = .ok (.getfield 195, 3) := by decide +kernel
theorem d_M_work_146 : decode b_M_work 146 = .ok (.aload_n 0, 1) := by decide +kernel
theorem d_M_work_147 : decode b_M_work 147 = .ok (.getfield 236, 3) := by decide +kernel
theorem d_M_work_150 : decode b_M_work 150 = .ok (.iadd, 1) := by decide +kernel
theorem d_M_work_151 : decode b_M_work 151 = .ok (.invokevirtual 281, 3) := by decide +kernel
theorem d_M_work_154 : decode b_M_work 154 = .ok (.goto 182, 3) := by decide +kernel
theorem d_M_work_157 : decode b_M_work 157 = .ok (.aload_n 0, 1) := by decide +kernel
theorem d_M_work_158 : decode b_M_work 158 = .ok (.getfield 242, 3) := by decide +kernel
theorem d_M_work_161 : decode b_M_work 161 = .ok (.bipush 10, 2) := by decide +kernel
theorem d_M_work_163 : decode b_M_work 163 = .ok (.if_icmp .ge 30, 3) := by decide +kernel
theorem d_M_work_166 : decode b_M_work 166 = .ok (.aload_n 0, 1) := by decide +kernel
theorem d_M_work_167 : decode b_M_work 167 = .ok (.aload_n 0, 1) := by decide +kernel
theorem d_M_work_168 : decode b_M_work 168 = .ok (.getfield 195, 3) := by decide +kernel
theorem d_M_work_171 : decode b_M_work 171 = .ok (.iload 4, 2) := by decide +kernel
theorem d_M_work_173 : decode b_M_work 173 = .ok (.iadd, 1) := by decide +kernel
theorem d_M_work_174 : decode b_M_work 174 = .ok (.putfield 287, 3) := by decide +kernel
theorem d_M_work_177 : decode b_M_work 177 = .ok (.aload_n 0, 1) := by decide +kernel
theorem d_M_work_178 : decode b_M_work 178 = .ok (.aload_n 0, 1) := by decide +kernel
theorem d_M_work_179 : decode b_M_work 179 = .ok (.getfield 242, 3) := by decide +kernel
theorem d_M_work_182 : decode b_M_work 182 = .ok (.iload_n 2, 1) := by decide +kernel
theorem d_M_work_183 : decode b_M_work 183 = .ok (.iload_n 3, 1) := by decide +kernel
theorem d_M_work_184 : decode b_M_work 184 = .ok (.invokestatic 290, 3) := by decide +kernel
theorem d_M_work_187 : decode b_M_work 187 = .ok (.putfield 284, 3) := by decide +kernel
theorem d_M_work_190 : decode b_M_work 190 = .ok (.goto 146, 3) := by decide +kernel
theorem d_M_work_193 : decode b_M_work 193 = .ok (.aload_n 0, 1) := by decide +kernel
theorem d_M_work_194 : decode b_M_work 194 = .ok (.getfield 242, 3) := by decide +kernel
theorem d_M_work_197 : decode b_M_work 197 = .ok (.bipush 15, 2) := by decide +kernel
theorem d_M_work_199 : decode b_M_work 199 = .ok (.if_icmp .ge 19, 3) := by decide +kernel
theorem d_M_work_202 : decode b_M_work 202 = .ok (.aload_n 0, 1) := by decide +kernel
theorem d_M_work_203 : decode b_M_work 203 = .ok (.iload_n 1, 1) := by decide +kernel
theorem d_M_work_204 : decode b_M_work 204 = .ok (.aload_n 0, 1) := by decide +kernel
theorem d_M_work_205 : decode b_M_work 205 = .ok (.iload_n 2, 1) := by decide +kernel
theorem d_M_work_206 : decode b_M_work 206 = .ok (.iload 4, 2) := by decide +kernel
theorem d_M_work_208 : decode b_M_work 208 = .ok (.iadd, 1) := by decide +kernel
theorem d_M_work_209 : decode b_M_work 209 = .ok (.invokevirtual 293, 3) := by decide +kernel
theorem d_M_work_212 : decode b_M_work 212 = .ok (.invokevirtual 281, 3) := by decide +kernel
theorem d_M_work_215 : decode b_M_work 215 = .ok (.goto 121, 3) := by decide +kernel
theorem d_M_work_218 : decode b_M_work 218 = .ok (.aload_n 0, 1) := by decide +kernel
theorem d_M_work_219 : decode b_M_work 219 = .ok (.getfield 242, 3) := by decide +kernel
theorem d_M_work_222 : decode b_M_work 222 = .ok (.bipush 18, 2) := by decide +kernel
theorem d_M_work_224 : decode b_M_work 224 = .ok (.if_icmp .ge 23, 3) := by decide +kernel
theorem d_M_work_227 : decode b_M_work 227 = .ok (.aload_n 0, 1) := by decide +kernel
theorem d_M_work_228 : decode b_M_work 228 = .ok (.iload_n 2, 1) := by decide +kernel
theorem d_M_work_229 : decode b_M_work 229 = .ok (.iload 4, 2) := by decide +kernel
theorem d_M_work_231 : decode b_M_work 231 = .ok (.iadd, 1) := by decide +kernel
theorem d_M_work_232 : decode b_M_work 232 = .ok (.aload_n 0, 1) := by decide +kernel
theorem d_M_work_233 : decode b_M_work 233 = .ok (.aload_n 0, 1) := by decide +kernel
theorem d_M_work_234 : decode b_M_work 234 = .ok (.getfield 242, 3) := by decide +kernel
theorem d_M_work_237 : decode b_M_work 237 = .ok (.invokevirtual 248, 3) := by decide +kernel
theorem d_M_work_240 : decode b_M_work 240 = .ok (.iload_n 3, 1) := by decide +kernel
theorem d_M_work_241 : decode b_M_work 241 = .ok (.invokevirtual 296, 3) := by decide +kernel
theorem d_M_work_244 : decode b_M_work 244 = .ok (.goto 92, 3) := by decide +kernel
theorem d_M_work_247 : decode b_M_work 247 = .ok (.aload_n 0, 1) := by decide +kernel
theorem d_M_work_248 : decode b_M_work 248 = .ok (.getfield 242, 3) := by decide +kernel
theorem d_M_work_251 : decode b_M_work 251 = .ok (.bipush 27, 2) := by decide +kernel
theorem d_M_work_253 : decode b_M_work 253 = .ok (.if_icmp .ge 21, 3) := by decide +kernel
theorem d_M_work_256 : decode b_M_work 256 = .ok (.aload_n 0, 1) := by decide +kernel
theorem d_M_work_257 : decode b_M_work 257 = .ok (.iload_n 1, 1) := by decide +kernel
theorem d_M_work_258 : decode b_M_work 258 = .ok (.aload_n 0, 1) := by decide +kernel
theorem d_M_work_259 : decode b_M_work 259 = .ok (.getfield 242, 3) := by decide +kernel
theorem d_M_work_262 : decode b_M_work 262 = .ok (.iload_n 2, 1) := by decide +kernel
theorem d_M_work_263 : decode b_M_work 263 = .ok (.iload 4, 2) := by decide +kernel
theorem d_M_work_265 : decode b_M_work 265 = .ok (.invokestatic 299, 3) := by decide +kernel
theorem d_M_work_268 : decode b_M_work 268 = .ok (.invokevirtual 281, 3) := by decide +kernel
theorem d_M_work_271 : decode b_M_work 271 = .ok (.goto 65, 3) := by decide +kernel
theorem d_M_work_274 : decode b_M_work 274 = .ok (.aload_n 0, 1) := by decide +kernel
theorem d_M_work_275 : decode b_M_work 275 = .ok (.getfield 242, 3) := by decide +kernel
theorem d_M_work_278 : decode b_M_work 278 = .ok (.bipush 45, 2) := by decide +kernel
theorem d_M_work_280 : decode b_M_work 280 = .ok (.if_icmp .ge 20, 3) := by decide +kernel
theorem d_M_work_283 : decode b_M_work 283 = .ok (.aload_n 0, 1) := by decide +kernel
theorem d_M_work_284 : decode b_M_work 284 = .ok (.iload_n 1, 1) := by decide +kernel
theorem d_M_work_285 : decode b_M_work 285 = .ok (.aload_n 0, 1) := by decide +kernel
theorem d_M_work_286 : decode b_M_work 286 = .ok (.getfield 242, 3) := by decide +kernel
theorem d_M_work_289 : decode b_M_work 289 = .ok (.iload_n 2, 1) := by decide +kernel
theorem d_M_work_290 : decode b_M_work 290 = .ok (.iload_n 3, 1) := by decide +kernel
theorem d_M_work_291 : decode b_M_work 291 = .ok (.invokestatic 299, 3) := by decide +kernel
theorem d_M_work_294 : decode b_M_work 294 = .ok (.invokevirtual 281, 3) := by decide +kernel
theorem d_M_work_297 : decode b_M_work 297 = .ok (.goto 39, 3) := by decide +kernel
theorem d_M_work_300 : decode b_M_work 300 = .ok (.aload_n 0, 1) := by decide +kernel
theorem d_M_work_301 : decode b_M_work 301 = .ok (.getfield 242, 3) := by decide +kernel
theorem d_M_work_304 : decode b_M_work 304 = .ok (.bipush 46, 2) := by decide +kernel
theorem d_M_work_306 : decode b_M_work 306 = .ok (.if_icmp .ne 10, 3) := by decide +kernel
theorem d_M_work_309 : decode b_M_work 309 = .ok (.aload_n 0, 1) := by decide +kernel
theorem d_M_work_310 : decode b_M_work 310 = .ok (.invokevirtual 302, 3) := by decide +kernel
theorem d_M_work_313 : decode b_M_work 313 = .ok (.goto 23, 3) := by decide +kernel
theorem d_M_work_316 : decode b_M_work 316 = .ok (.aload_n 0, 1) := by decide +kernel
theorem d_M_work_317 : decode b_M_work 317 = .ok (.getfield 242, 3) := by decide +kernel
theorem d_M_work_320 : decode b_M_work 320 = .ok (.bipush 47, 2) := by decide +kernel
theorem d_M_work_322 : decode b_M_work 322 = .ok (.if_icmp .ne 14, 3) := by decide +kernel
theorem d_M_work_325 : decode b_M_work 325 = .ok (.aload_n 0, 1) := by decide +kernel
theorem d_M_work_326 : decode b_M_work 326 = .ok (.bipush 6, 2) := by decide +kernel
theorem d_M_work_328 : decode b_M_work 328 = .ok (.aload_n 0, 1) := by decide +kernel
theorem d_M_work_329 : decode b_M_work 329 = .ok (.getfield 195, 3) := by decide +kernel
theorem d_M_work_332 : decode b_M_work 332 = .ok (.invokevirtual 229, 3) := by decide +kernel
theorem d_M_work_335 : decode b_M_work 335 = .ok (.pop, 1) := by decide +kernel
theorem d_M_work_336 : decode b_M_work 336 = .ok (.aload_n 0, 1) := by decide +kernel
theorem d_M_work_337 : decode b_M_work 337 = .ok (.getfield 198, 3) := by decide +kernel
theorem d_M_work_340 : decode b_M_work 340 = .ok (.ifCond .eq 4, 3) := by decide +kernel
theorem d_M_work_343 : decode b_M_work 343 = .ok (.return_, 1) := by decide +kernel
theorem d_M_work_344 : decode b_M_work 344 = .ok (.aload_n 0, 1) := by decide +kernel
theorem d_M_work_345 : decode b_M_work 345 = .ok (.aload_n 0, 1) := by decide +kernel
theorem d_M_work_346 : decode b_M_work 346 = .ok (.getfield 284, 3) := by decide +kernel
theorem d_M_work_349 : decode b_M_work 349 = .ok (.ifCond .eq 10, 3) := by decide +kernel
theorem d_M_work_352 : decode b_M_work 352 = .ok (.aload_n 0, 1) := by decide +kernel
theorem d_M_work_353 : decode b_M_work 353 = .ok (.getfield 287, 3) := by decide +kernel
theorem d_M_work_356 : decode b_M_work 356 = .ok (.goto 12, 3) := by decide +kernel
theorem d_M_work_359 : decode b_M_work 359 = .ok (.aload_n 0, 1) := by decide +kernel
theorem d_M_work_360 : decode b_M_work 360 = .ok (.getfield 195, 3) := by decide +kernel
theorem d_M_work_363 : decode b_M_work 363 = .ok (.aload_n 0, 1) := by decide +kernel
theorem d_M_work_364 : decode b_M_work 364 = .ok (.getfield 236, 3) := by decide +kernel
theorem d_M_work_367 : decode b_M_work 367 = .ok (.iadd, 1) := by decide +kernel
theorem d_M_work_368 : decode b_M_work 368 = .ok (.putfield 195, 3) := by decide +kernel
theorem d_M_work_371 : decode b_M_work 371 = .ok (.aload_n 0, 1) := by decide +kernel
theorem d_M_work_372 : decode b_M_work 372 = .ok (.getfield 284, 3) := by decide +kernel
theorem d_M_work_375 : decode b_M_work 375 = .ok (.ifCond .eq 34, 3) := by decide +kernel
theorem d_M_work_378 : decode b_M_work 378 = .ok (.aload_n 0, 1) := by decide +kernel
theorem d_M_work_379 : decode b_M_work 379 = .ok (.getfield 189, 3) := by decide +kernel
theorem d_M_work_382 : decode b_M_work 382 = .ok (.ifCond .eq 27, 3) := by decide +kernel
theorem d_M_work_385 : decode b_M_work 385 = .ok (.aload_n 0, 1) := by decide +kernel
theorem d_M_work_386 : decode b_M_work 386 = .ok (.aload_n 0, 1) := by decide +kernel
theorem d_M_work_387 : decode b_M_work 387 = .ok (.getfield 287, 3) := by decide +kernel
theorem d_M_work_390 : decode b_M_work 390 = .ok (.invokestatic 221, 3) := by decide +kernel
theorem d_M_work_393 : decode b_M_work 393 = .ok (.invokevirtual 305, 3) := by decide +kernel
theorem d_M_work_396 : decode b_M_work 396 = .ok (.ifCond .ne 13, 3) := by decide +kernel
theorem d_M_work_399 : decode b_M_work 399 = .ok (.aload_n 0, 1) := by decide +kernel
theorem d_M_work_400 : decode b_M_work 400 = .ok (.iconst 5, 1) := by decide +kernel
theorem d_M_work_401 : decode b_M_work 401 = .ok (.aload_n 0, 1) := by decide +kernel
theorem d_M_work_402 : decode b_M_work 402 = .ok (.getfield 287, 3) := by decide +kernel
theorem d_M_work_405 : decode b_M_work 405 = .ok (.invokevirtual 229, 3) := by decide +kernel
theorem d_M_work_408 : decode b_M_work 408 = .ok (.pop, 1) := by decide +kernel
theorem d_M_work_409 : decode b_M_work 409 = .ok (.return_, 1) := by decide +kernel
theorem d_M_isUnit_0 : decode b_M_isUnit 0 = .ok (.aload_n 0, 1) := by decide +kernel
theorem d_M_isUnit_1 : decode b_M_isUnit 1 = .ok (.getfield 189, 3) := by decide +kernel
theorem d_M_isUnit_4 : decode b_M_isUnit 4 = .ok (.ifCond .eq 17, 3) := by decide +kernel
theorem d_M_isUnit_7 : decode b_M_isUnit 7 = .ok (.aload_n 0, 1) := by decide +kernel
theorem d_M_isUnit_8 : decode b_M_isUnit 8 = .ok (.aload_n 0, 1) := by decide +kernel
theorem d_M_isUnit_9 : decode b_M_isUnit 9 = .ok (.getfield 195, 3) := by decide +kernel
theorem d_M_isUnit_12 : decode b_M_isUnit 12 = .ok (.invokestatic 221, 3) := by decide +kernel
theorem d_M_isUnit_15 : decode b_M_isUnit 15 = .ok (.invokevirtual 305, 3) := by decide +kernel
theorem d_M_isUnit_18 : decode b_M_isUnit 18 = .ok (.ifCond .eq 7, 3) := by decide +kernel
theorem d_M_isUnit_21 : decode b_M_isUnit 21 = .ok (.iconst 1, 1) := by decide +kernel
theorem d_M_isUnit_22 : decode b_M_isUnit 22 = .ok (.goto 4, 3) := by decide +kernel
theorem d_M_isUnit_25 : decode b_M_isUnit 25 = .ok (.iconst 0, 1) := by decide +kernel
theorem d_M_isUnit_26 : decode b_M_isUnit 26 = .ok (.ireturn, 1) := by decide +kernel
theorem d_M_isEnd_0 : decode b_M_isEnd 0 = .ok (.aload_n 0, 1) := by decide +kernel
theorem d_M_isEnd_1 : decode b_M_isEnd 1 = .ok (.getfield 198, 3) := by decide +kernel
theorem d_M_isEnd_4 : decode b_M_isEnd 4 = .ok (.ifCond .eq 16, 3) := by decide +kernel
theorem d_M_isEnd_7 : decode b_M_isEnd 7 = .ok (.aload_n 0, 1) := by decide +kernel
theorem d_M_isEnd_8 : decode b_M_isEnd 8 = .ok (.getfield 198, 3) := by decide +kernel
theorem d_M_isEnd_11 : decode b_M_isEnd 11 = .ok (.bipush 9, 2) := by decide +kernel
theorem d_M_isEnd_13 : decode b_M_isEnd 13 = .ok (.if_icmp .eq 7, 3) := by decide +kernel
theorem d_M_isEnd_16 : decode b_M_isEnd 16 = .ok (.iconst 1, 1) := by decide +kernel
theorem d_M_isEnd_17 : decode b_M_isEnd 17 = .ok (.goto 4, 3) := by decide +kernel
theorem d_M_isEnd_20 : decode b_M_isEnd 20 = .ok (.iconst 0, 1) := by decide +kernel
theorem d_M_isEnd_21 : decode b_M_isEnd 21 = .ok (.ireturn, 1) := by decide +kernel
theorem d_M_step_0 : decode b_M_step 0 = .ok (.aload_n 0, 1) := by decide +kernel
theorem d_M_step_1 : decode b_M_step 1 = .ok (.invokevirtual 309, 3) := by decide +kernel
theorem d_M_step_4 : decode b_M_step 4 = .ok (.ifCond .eq 8, 3) := by decide +kernel
theorem d_M_step_7 : decode b_M_step 7 = .ok (.aload_n 0, 1) := by decide +kernel
theorem d_M_step_8 : decode b_M_step 8 = .ok (.getfield 198, 3) := by decide +kernel
theorem d_M_step_11 : decode b_M_step 11 = .ok (.ireturn, 1) := by decide +kernel
theorem d_M_step_12 : decode b_M_step 12 = .ok (.aload_n 0, 1) := by decide +kernel
theorem d_M_step_13 : decode b_M_step 13 = .ok (.invokevirtual 313, 3) := by decide +kernel
theorem d_M_step_16 : decode b_M_step 16 = .ok (.ifCond .eq 7, 3) := by decide +kernel
theorem d_M_step_19 : decode b_M_step 19 = .ok (.iconst 1, 1) := by decide +kernel
theorem d_M_step_20 : decode b_M_step 20 = .ok (.goto 4, 3) := by decide +kernel
theorem d_M_step_23 : decode b_M_step 23 = .ok (.iconst 0, 1) := by decide +kernel
theorem d_M_step_24 : decode b_M_step 24 = .ok (.istore_n 1, 1) := by decide +kernel
theorem d_M_step_25 : decode b_M_step 25 = .ok (.aload_n 0, 1) := by decide +kernel
theorem d_M_step_26 : decode b_M_step 26 = .ok (.getfield 198, 3) := by decide +kernel
theorem d_M_step_29 : decode b_M_step 29 = .ok (.istore_n 2, 1) := by decide +kernel
theorem d_M_step_30 : decode b_M_step 30 = .ok (.aload_n 0, 1) := by decide +kernel
theorem d_M_step_31 : decode b_M_step 31 = .ok (.getfield 201, 3) := by decide +kernel
theorem d_M_step_34 : decode b_M_step 34 = .ok (.istore_n 3, 1) := by decide +kernel
theorem d_M_step_35 : decode b_M_step 35 = .ok (.aload_n 0, 1) := by decide +kernel
theorem d_M_step_36 : decode b_M_step 36 = .ok (.invokevirtual 316, 3) := by decide +kernel
theorem d_M_step_39 : decode b_M_step 39 = .ok (.ifCond .eq 10, 3) := by decide +kernel
theorem d_M_step_42 : decode b_M_step 42 = .ok (.aload_n 0, 1) := by decide +kernel
theorem d_M_step_43 : decode b_M_step 43 = .ok (.invokevirtual 319, 3) := by decide +kernel
theorem d_M_step_46 : decode b_M_step 46 = .ok (.ifCond .ne 8, 3) := by decide +kernel
theorem d_M_step_49 : decode b_M_step 49 = .ok (.aload_n 0, 1) := by decide +kernel
theorem d_M_step_50 : decode b_M_step 50 = .ok (.getfield 198, 3) := by decide +kernel
theorem d_M_step_53 : decode b_M_step 53 = .ok (.ireturn, 1) := by decide +kernel
theorem d_M_step_54 : decode b_M_step 54 = .ok (.aload_n 0, 1) := by decide +kernel
theorem d_M_step_55 : decode b_M_step 55 = .ok (.iload_n 2, 1) := by decide +kernel
theorem d_M_step_56 : decode b_M_step 56 = .ok (.putfield 198, 3) := by decide +kernel
theorem d_M_step_59 : decode b_M_step 59 = .ok (.aload_n 0, 1) := by decide +kernel
theorem d_M_step_60 : decode b_M_step 60 = .ok (.iload_n 3, 1) := by decide +kernel
theorem d_M_step_61 : decode b_M_step 61 = .ok (.putfield 201, 3) := by decide +kernel
theorem d_M_step_64 : decode b_M_step 64 = .ok (.aload_n 0, 1) := by decide +kernel
theorem d_M_step_65 : decode b_M_step 65 = .ok (.invokevirtual 322, 3) := by decide +kernel
theorem d_M_step_68 : decode b_M_step 68 = .ok (.aload_n 0, 1) := by decide +kernel
theorem d_M_step_69 : decode b_M_step 69 = .ok (.iconst 0, 1) := by decide +kernel
theorem d_M_step_70 : decode b_M_step 70 = .ok (.putfield 198, 3) := by decide +kernel
theorem d_M_step_73 : decode b_M_step 73 = .ok (.aload_n 0, 1) := by decide +kernel
theorem d_M_step_74 : decode b_M_step 74 = .ok (.iconst 0, 1) := by decide +kernel
theorem d_M_step_75 : decode b_M_step 75 = .ok (.putfield 201, 3) := by decide +kernel
theorem d_M_step_78 : decode b_M_step 78 = .ok (.aload_n 0, 1) := by decide +kernel
theorem d_M_step_79 : decode b_M_step 79 = .ok (.invokevirtual 325, 3) := by decide +kernel
theorem d_M_step_82 : decode b_M_step 82 = .ok (.aload_n 0, 1) := by decide +kernel
theorem d_M_step_83 : decode b_M_step 83 = .ok (.dup, 1) := by decide +kernel
theorem d_M_step_84 : decode b_M_step 84 = .ok (.getfield 257, 3) := by decide +kernel
theorem d_M_step_87 : decode b_M_step 87 = .ok (.iconst 1, 1) := by decide +kernel
theorem d_M_step_88 : decode b_M_step 88 = .ok (.iadd, 1) := by decide +kernel
theorem d_M_step_89 : decode b_M_step 89 = .ok (.putfield 257, 3) := by decide +kernel
theorem d_M_step_92 : decode b_M_step 92 = .ok (.aload_n 0, 1) := by decide +kernel
theorem d_M_step_93 : decode b_M_step 93 = .ok (.dup, 1) := by decide +kernel
theorem d_M_step_94 : decode b_M_step 94 = .ok (.getfield 260, 3) := by decide +kernel
theorem d_M_step_97 : decode b_M_step 97 = .ok (.iload_n 1, 1) := by decide +kernel
theorem d_M_step_98 : decode b_M_step 98 = .ok (.iadd, 1) := by decide +kernel
theorem d_M_step_99 : decode b_M_step 99 = .ok (.putfield 260, 3) := by decide +kernel
theorem d_M_step_102 : decode b_M_step 102 = .ok (.aload_n 0, 1) := by decide +kernel
theorem d_M_step_103 : decode b_M_step 103 = .ok (.getfield 198, 3) := by decide +kernel
theorem d_M_step_106 : decode b_M_step 106 = .ok (.ireturn, 1) := by decide +kernel
theorem d_M_run_0 : decode b_M_run 0 = .ok (.iload_n 1, 1) := by decide +kernel
theorem d_M_run_1 : decode b_M_run 1 = .ok (.ifCond .lt 10, 3) := by decide +kernel
theorem d_M_run_4 : decode b_M_run 4 = .ok (.iload_n 1, 1) := by decide +kernel
theorem d_M_run_5 : decode b_M_run 5 = .ok (.sipush 2000, 3) := by decide +kernel
theorem d_M_run_8 : decode b_M_run 8 = .ok (.if_icmp .le 5, 3) := by decide +kernel
theorem d_M_run_11 : decode b_M_run 11 = .ok (.iconst (-1), 1) := by decide +kernel
theorem d_M_run_12 : decode b_M_run 12 = .ok (.ireturn, 1) := by decide +kernel
theorem d_M_run_13 : decode b_M_run 13 = .ok (.aload_n 0, 1) := by decide +kernel
theorem d_M_run_14 : decode b_M_run 14 = .ok (.getfield 260, 3) := by decide +kernel
theorem d_M_run_17 : decode b_M_run 17 = .ok (.istore_n 2, 1) := by decide +kernel
theorem d_M_run_18 : decode b_M_run 18 = .ok (.iconst 1, 1) := by decide +kernel
theorem d_M_run_19 : decode b_M_run 19 = .ok (.istore_n 3, 1) := by decide +kernel
theorem d_M_run_20 : decode b_M_run 20 = .ok (.aload_n 0, 1) := by decide +kernel
theorem d_M_run_21 : decode b_M_run 21 = .ok (.invokevirtual 309, 3) := by decide +kernel
theorem d_M_run_24 : decode b_M_run 24 = .ok (.ifCond .ne 7, 3) := by decide +kernel
theorem d_M_run_27 : decode b_M_run 27 = .ok (.iconst 1, 1) := by decide +kernel
theorem d_M_run_28 : decode b_M_run 28 = .ok (.goto 4, 3) := by decide +kernel
theorem d_M_run_31 : decode b_M_run 31 = .ok (.iconst 0, 1) := by decide +kernel
theorem d_M_run_32 : decode b_M_run 32 = .ok (.istore 4, 2) := by decide +kernel
theorem d_M_run_34 : decode b_M_run 34 = .ok (.iload 4, 2) := by decide +kernel
theorem d_M_run_36 : decode b_M_run 36 = .ok (.ifCond .eq 83, 3) := by decide +kernel
theorem d_M_run_39 : decode b_M_run 39 = .ok (.iload_n 3, 1) := by decide +kernel
theorem d_M_run_40 : decode b_M_run 40 = .ok (.ifCond .ne 32, 3) := by decide +kernel
theorem d_M_run_43 : decode b_M_run 43 = .ok (.aload_n 0, 1) := by decide +kernel
theorem d_M_run_44 : decode b_M_run 44 = .ok (.aload_n 0, 1) := by decide +kernel
theorem d_M_run_45 : decode b_M_run 45 = .ok (.getfield 195, 3) := by decide +kernel
theorem d_M_run_48 : decode b_M_run 48 = .ok (.invokevirtual 210, 3) := by decide +kernel
theorem d_M_run_51 : decode b_M_run 51 = .ok (.iconst (-1), 1) := by decide +kernel
theorem d_M_run_52 : decode b_M_run 52 = .ok (.if_icmp .eq 20, 3) := by decide +kernel
theorem d_M_run_55 : decode b_M_run 55 = .ok (.aload_n 0, 1) := by decide +kernel
theorem d_M_run_56 : decode b_M_run 56 = .ok (.bipush 9, 2) := by decide +kernel
theorem d_M_run_58 : decode b_M_run 58 = .ok (.aload_n 0, 1) := by decide +kernel
theorem d_M_run_59 : decode b_M_run 59 = .ok (.getfield 195, 3) := by decide +kernel
theorem d_M_run_62 : decode b_M_run 62 = .ok (.invokevirtual 229, 3) := by decide +kernel
theorem d_M_run_65 : decode b_M_run 65 = .ok (.pop, 1) := by decide +kernel
theorem d_M_run_66 : decode b_M_run 66 = .ok (.iconst 0, 1) := by decide +kernel
theorem d_M_run_67 : decode b_M_run 67 = .ok (.istore 4, 2) := by decide +kernel
theorem d_M_run_69 : decode b_M_run 69 = .ok (.goto (-35), 3) := by decide +kernel
theorem d_M_run_72 : decode b_M_run 72 = .ok (.aload_n 0, 1) := by decide +kernel
theorem d_M_run_73 : decode b_M_run 73 = .ok (.invokevirtual 313, 3) := by decide +kernel
theorem d_M_run_76 : decode b_M_run 76 = .ok (.ifCond .eq 19, 3) := by decide +kernel
theorem d_M_run_79 : decode b_M_run 79 = .ok (.aload_n 0, 1) := by decide +kernel
theorem d_M_run_80 : decode b_M_run 80 = .ok (.getfield 260, 3) := by decide +kernel
theorem d_M_run_83 : decode b_M_run 83 = .ok (.iload_n 2, 1) := by decide +kernel
theorem d_M_run_84 : decode b_M_run 84 = .ok (.isub, 1) := by decide +kernel
theorem d_M_run_85 : decode b_M_run 85 = .ok (.iload_n 1, 1) := by decide +kernel
theorem d_M_run_86 : decode b_M_run 86 = .ok (.if_icmp .ne 9, 3) := by decide +kernel
theorem d_M_run_89 : decode b_M_run 89 = .ok (.iconst 0, 1) := by decide +kernel
theorem d_M_run_90 : decode b_M_run 90 = .ok (.istore 4, 2) := by decide +kernel
theorem d_M_run_92 : decode b_M_run 92 = .ok (.goto (-58), 3) := by decide +kernel
theorem d_M_run_95 : decode b_M_run 95 = .ok (.aload_n 0, 1) := by decide +kernel
theorem d_M_run_96 : decode b_M_run 96 = .ok (.invokevirtual 328, 3) := by decide +kernel
theorem d_M_run_99 : decode b_M_run 99 = .ok (.pop, 1) := by decide +kernel
theorem d_M_run_100 : decode b_M_run 100 = .ok (.iconst 0, 1) := by decide +kernel
theorem d_M_run_101 : decode b_M_run 101 = .ok (.istore_n 3, 1) := by decide +kernel
theorem d_M_run_102 : decode b_M_run 102 = .ok (.aload_n 0, 1) := by decide +kernel
theorem d_M_run_103 : decode b_M_run 103 = .ok (.invokevirtual 309, 3) := by decide +kernel
theorem d_M_run_106 : decode b_M_run 106 = .ok (.ifCond .ne 7, 3) := by decide +kernel
theorem d_M_run_109 : decode b_M_run 109 = .ok (.iconst 1, 1) := by decide +kernel
theorem d_M_run_110 : decode b_M_run 110 = .ok (.goto 4, 3) := by decide +kernel
theorem d_M_run_113 : decode b_M_run 113 = .ok (.iconst 0, 1) := by decide +kernel
theorem d_M_run_114 : decode b_M_run 114 = .ok (.istore 4, 2) := by decide +kernel
theorem d_M_run_116 : decode b_M_run 116 = .ok (.goto (-82), 3) := by decide +kernel
theorem d_M_run_119 : decode b_M_run 119 = .ok (.aload_n 0, 1) := by decide +kernel
theorem d_M_run_120 : decode b_M_run 120 = .ok (.getfield 260, 3) := by decide +kernel
theorem d_M_run_123 : decode b_M_run 123 = .ok (.iload_n 2, 1) := by decide +kernel
theorem d_M_run_124 : decode b_M_run 124 = .ok (.isub, 1) := by decide +kernel
theorem d_M_run_125 : decode b_M_run 125 = .ok (.ireturn, 1) := by decide +kernel
theorem d_M_back_0 : decode b_M_back 0 = .ok (.iconst 0, 1) := by decide +kernel
theorem d_M_back_1 : decode b_M_back 1 = .ok (.istore_n 2, 1) := by decide +kernel
theorem d_M_back_2 : decode b_M_back 2 = .ok (.iload_n 2, 1) := by decide +kernel
theorem d_M_back_3 : decode b_M_back 3 = .ok (.iload_n 1, 1) := by decide +kernel
theorem d_M_back_4 : decode b_M_back 4 = .ok (.if_icmp .ge 250, 3) := by decide +kernel
theorem d_M_back_7 : decode b_M_back 7 = .ok (.aload_n 0, 1) := by decide +kernel
theorem d_M_back_8 : decode b_M_back 8 = .ok (.getfield 180, 3) := by decide +kernel
theorem d_M_back_11 : decode b_M_back 11 = .ok (.ifCond .le 243, 3) := by decide +kernel
theorem d_M_back_14 : decode b_M_back 14 = .ok (.aload_n 0, 1) := by decide +kernel
theorem d_M_back_15 : decode b_M_back 15 = .ok (.invokevirtual 269, 3) := by decide +kernel
theorem d_M_back_18 : decode b_M_back 18 = .ok (.istore_n 3, 1) := by decide +kernel
theorem d_M_back_19 : decode b_M_back 19 = .ok (.aload_n 0, 1) := by decide +kernel
theorem d_M_back_20 : decode b_M_back 20 = .ok (.aload_n 0, 1) := by decide +kernel
theorem d_M_back_21 : decode b_M_back 21 = .ok (.getfield 46, 3) := by decide +kernel
theorem d_M_back_24 : decode b_M_back 24 = .ok (.iload_n 3, 1) := by decide +kernel
theorem d_M_back_25 : decode b_M_back 25 = .ok (.iaload, 1) := by decide +kernel
theorem d_M_back_26 : decode b_M_back 26 = .ok (.putfield 195, 3) := by decide +kernel
theorem d_M_back_29 : decode b_M_back 29 = .ok (.aload_n 0, 1) := by decide +kernel
theorem d_M_back_30 : decode b_M_back 30 = .ok (.aload_n 0, 1) := by decide +kernel
theorem d_M_back_31 : decode b_M_back 31 = .ok (.getfield 46, 3) := by decide +kernel
theorem d_M_back_34 : decode b_M_back 34 = .ok (.iload_n 3, 1) := by decide +kernel
theorem d_M_back_35 : decode b_M_back 35 = .ok (.iconst 1, 1) := by decide +kernel
theorem d_M_back_36 : decode b_M_back 36 = .ok (.iadd, 1) := by decide +kernel
theorem d_M_back_37 : decode b_M_back 37 = .ok (.iaload, 1) := by decide +kernel
theorem d_M_back_38 : decode b_M_back 38 = .ok (.putfield 198, 3) := by decide +kernel
theorem d_M_back_41 : decode b_M_back 41 = .ok (.aload_n 0, 1) := by decide +kernel
theorem d_M_back_42 : decode b_M_back 42 = .ok (.aload_n 0, 1) := by decide +kernel
theorem d_M_back_43 : decode b_M_back 43 = .ok (.getfield 46, 3) := by decide +kernel
theorem d_M_back_46 : decode b_M_back 46 = .ok (.iload_n 3, 1) := by decide +kernel
theorem d_M_back_47 : decode b_M_back 47 = .ok (.iconst 2, 1) := by decide +kernel
theorem d_M_back_48 : decode b_M_back 48 = .ok (.iadd, 1) := by decide +kernel
theorem d_M_back_49 : decode b_M_back 49 = .ok (.iaload, 1) := by decide +kernel
theorem d_M_back_50 : decode b_M_back 50 = .ok (.putfield 201, 3) := by decide +kernel
theorem d_M_back_53 : decode b_M_back 53 = .ok (.aload_n 0, 1) := by decide +kernel
theorem d_M_back_54 : decode b_M_back 54 = .ok (.aload_n 0, 1) := by decide +kernel
theorem d_M_back_55 : decode b_M_back 55 = .ok (.getfield 46, 3) := by decide +kernel
theorem d_M_back_58 : decode b_M_back 58 = .ok (.iload_n 3, 1) := by decide +kernel
theorem d_M_back_59 : decode b_M_back 59 = .ok (.iconst 3, 1) := by decide +kernel
theorem d_M_back_60 : decode b_M_back 60 = .ok (.iadd, 1) := by decide +kernel
theorem d_M_back_61 : decode b_M_back 61 = .ok (.iaload, 1) := by decide +kernel
theorem d_M_back_62 : decode b_M_back 62 = .ok (.putfield 254, 3) := by decide +kernel
theorem d_M_back_65 : decode b_M_back 65 = .ok (.aload_n 0, 1) := by decide +kernel
theorem d_M_back_66 : decode b_M_back 66 = .ok (.aload_n 0, 1) := by decide +kernel
theorem d_M_back_67 : decode b_M_back 67 = .ok (.getfield 46, 3) := by decide +kernel
theorem d_M_back_70 : decode b_M_back 70 = .ok (.iload_n 3, 1) := by decide +kernel
theorem d_M_back_71 : decode b_M_back 71 = .ok (.iconst 4, 1) := by decide +kernel
theorem d_M_back_72 : decode b_M_back 72 = .ok (.iadd, 1) := by decide +kernel
theorem d_M_back_73 : decode b_M_back 73 = .ok (.iaload, 1) := by decide +kernel
theorem d_M_back_74 : decode b_M_back 74 = .ok (.putfield 257, 3) := by decide +kernel
theorem d_M_back_77 : decode b_M_back 77 = .ok (.aload_n 0, 1) := by decide +kernel
theorem d_M_back_78 : decode b_M_back 78 = .ok (.aload_n 0, 1) := by decide +kernel
theorem d_M_back_79 : decode b_M_back 79 = .ok (.getfield 46, 3) := by decide +kernel
theorem d_M_back_82 : decode b_M_back 82 = .ok (.iload_n 3, 1) := by decide +kernel
theorem d_M_back_83 : decode b_M_back 83 = .ok (.iconst 5, 1) := by decide +kernel
theorem d_M_back_84 : decode b_M_back 84 = .ok (.iadd, 1) := by decide +kernel
theorem d_M_back_85 : decode b_M_back 85 = .ok (.iaload, 1) := by decide +kernel
theorem d_M_back_86 : decode b_M_back 86 = .ok (.putfield 260, 3) := by decide +kernel
theorem d_M_back_89 : decode b_M_back 89 = .ok (.aload_n 0, 1) := by decide +kernel
theorem d_M_back_90 : decode b_M_back 90 = .ok (.aload_n 0, 1) := by decide +kernel
theorem d_M_back_91 : decode b_M_back 91 = .ok (.getfield 46, 3) := by decide +kernel
theorem d_M_back_94 : decode b_M_back 94 = .ok (.iload_n 3, 1) := by decide +kernel
theorem d_M_back_95 : decode b_M_back 95 = .ok (.bipush 6, 2) := by decide +kernel
theorem d_M_back_97 : decode b_M_back 97 = .ok (.iadd, 1) := by decide +kernel
theorem d_M_back_98 : decode b_M_back 98 = .ok (.iaload, 1) := by decide +kernel
theorem d_M_back_99 : decode b_M_back 99 = .ok (.putfield 263, 3) := by decide +kernel
theorem d_M_back_102 : decode b_M_back 102 = .ok (.aload_n 0, 1) := by decide +kernel
theorem d_M_back_103 : decode b_M_back 103 = .ok (.aload_n 0, 1) := by decide +kernel
theorem d_M_back_104 : decode b_M_back 104 = .ok (.getfield 46, 3) := by decide +kernel
theorem d_M_back_107 : decode b_M_back 107 = .ok (.iload_n 3, 1) := by decide +kernel
theorem d_M_back_108 : decode b_M_back 108 = .ok (.bipush 7, 2) := by decide +kernel
theorem d_M_back_110 : decode b_M_back 110 = .ok (.iadd, 1) := by decide +kernel
theorem d_M_back_111 : decode b_M_back 111 = .ok (.iaload, 1) := by decide +kernel
theorem d_M_back_112 : decode b_M_back 112 = .ok (.putfield 266, 3) := by decide +kernel
theorem d_M_back_115 : decode b_M_back 115 = .ok (.aload_n 0, 1) := by decide +kernel
theorem d_M_back_116 : decode b_M_back 116 = .ok (.getfield 46, 3) := by decide +kernel
theorem d_M_back_119 : decode b_M_back 119 = .ok (.iload_n 3, 1) := by decide +kernel
theorem d_M_back_120 : decode b_M_back 120 = .ok (.bipush 8, 2) := by decide +kernel
theorem d_M_back_122 : decode b_M_back 122 = .ok (.iadd, 1) := by decide +kernel
theorem d_M_back_123 : decode b_M_back 123 = .ok (.iaload, 1) := by decide +kernel
theorem d_M_back_124 : decode b_M_back 124 = .ok (.ifCond .le 26, 3) := by decide +kernel
theorem d_M_back_127 : decode b_M_back 127 = .ok (.aload_n 0, 1) := by decide +kernel
theorem d_M_back_128 : decode b_M_back 128 = .ok (.getfield 37, 3) := by decide +kernel
theorem d_M_back_131 : decode b_M_back 131 = .ok (.aload_n 0, 1) := by decide +kernel
theorem d_M_back_132 : decode b_M_back 132 = .ok (.getfield 46, 3) := by decide +kernel
theorem d_M_back_135 : decode b_M_back 135 = .ok (.iload_n 3, 1) := by decide +kernel
theorem d_M_back_136 : decode b_M_back 136 = .ok (.bipush 8, 2) := by decide +kernel
theorem d_M_back_138 : decode b_M_back 138 = .ok (.iadd, 1) := by decide +kernel
theorem d_M_back_139 : decode b_M_back 139 = .ok (.iaload, 1) := by decide +kernel
theorem d_M_back_140 : decode b_M_back 140 = .ok (.aload_n 0, 1) := by decide +kernel
theorem d_M_back_141 : decode b_M_back 141 = .ok (.getfield 46, 3) := by decide +kernel
theorem d_M_back_144 : decode b_M_back 144 = .ok (.iload_n 3, 1) := by decide +kernel
theorem d_M_back_145 : decode b_M_back 145 = .ok (.bipush 9, 2) := by decide +kernel
theorem d_M_back_147 : decode b_M_back 147 = .ok (.iadd, 1) := by decide +kernel
theorem d_M_back_148 : decode b_M_back 148 = .ok (.iaload, 1) := by decide +kernel
theorem d_M_back_149 : decode b_M_back 149 = .ok (.iastore, 1) := by decide +kernel
theorem d_M_back_150 : decode b_M_back 150 = .ok (.iconst 0, 1) := by decide +kernel
theorem d_M_back_151 : decode b_M_back 151 = .ok (.istore 4, 2) := by decide +kernel
theorem d_M_back_153 : decode b_M_back 153 = .ok (.aload_n 0, 1) := by decide +kernel
theorem d_M_back_154 : decode b_M_back 154 = .ok (.getfield 46, 3) := by decide +kernel
theorem d_M_back_157 : decode b_M_back 157 = .ok (.iload_n 3, 1) := by decide +kernel
theorem d_M_back_158 : decode b_M_back 158 = .ok (.bipush 10, 2) := by decide +kernel
theorem d_M_back_160 : decode b_M_back 160 = .ok (.iadd, 1) := by decide +kernel
theorem d_M_back_161 : decode b_M_back 161 = .ok (.iaload, 1) := by decide +kernel
theorem d_M_back_162 : decode b_M_back 162 = .ok (.iconst (-1), 1) := by decide +kernel
theorem d_M_back_163 : decode b_M_back 163 = .ok (.if_icmp .eq 59, 3) := by decide +kernel
theorem d_M_back_166 : decode b_M_back 166 = .ok (.iload 4, 2) := by decide +kernel
theorem d_M_back_168 : decode b_M_back 168 = .ok (.aload_n 0, 1) := by decide +kernel
theorem d_M_back_169 : decode b_M_back 169 = .ok (.getfield 46, 3) := by decide +kernel
theorem d_M_back_172 : decode b_M_back 172 = .ok (.iload_n 3, 1) := by decide +kernel
theorem d_M_back_173 : decode b_M_back 173 = .ok (.bipush 11, 2) := by decide +kernel
theorem d_M_back_175 : decode b_M_back 175 = .ok (.iadd, 1) := by decide +kernel
theorem d_M_back_176 : decode b_M_back 176 = .ok (.iaload, 1) := by decide +kernel
theorem d_M_back_177 : decode b_M_back 177 = .ok (.if_icmp .ge 45, 3) := by decide +kernel
theorem d_M_back_180 : decode b_M_back 180 = .ok (.aload_n 0, 1) := by decide +kernel
theorem d_M_back_181 : decode b_M_back 181 = .ok (.getfield 17, 3) := by decide +kernel
theorem d_M_back_184 : decode b_M_back 184 = .ok (.aload_n 0, 1) := by decide +kernel
theorem d_M_back_185 : decode b_M_back 185 = .ok (.getfield 46, 3) := by decide +kernel
theorem d_M_back_188 : decode b_M_back 188 = .ok (.iload_n 3, 1) := by decide +kernel
theorem d_M_back_189 : decode b_M_back 189 = .ok (.bipush 10, 2) := by decide +kernel
theorem d_M_back_191 : decode b_M_back 191 = .ok (.iadd, 1) := by decide +kernel
theorem d_M_back_192 : decode b_M_back 192 = .ok (.iaload, 1) := by decide +kernel
theorem d_M_back_193 : decode b_M_back 193 = .ok (.iload 4, 2) := by decide +kernel
theorem d_M_back_195 : decode b_M_back 195 = .ok (.iadd, 1) := by decide +kernel
theorem d_M_back_196 : decode b_M_back 196 = .ok (.aload_n 0, 1) := by decide +kernel
theorem d_M_back_197 : decode b_M_back 197 = .ok (.getfield 46, 3) := by decide +kernel
theorem d_M_back_200 : decode b_M_back 200 = .ok (.iload_n 3, 1) := by decide +kernel
theorem d_M_back_201 : decode b_M_back 201 = .ok (.bipush 12, 2) := by decide +kernel
theorem d_M_back_203 : decode b_M_back 203 = .ok (.iadd, 1) := by decide +kernel
theorem d_M_back_204 : decode b_M_back 204 = .ok (.iaload, 1) := by decide +kernel
theorem d_M_back_205 : decode b_M_back 205 = .ok (.bipush 8, 2) := by decide +kernel
theorem d_M_back_207 : decode b_M_back 207 = .ok (.iload 4, 2) := by decide +kernel
theorem d_M_back_209 : decode b_M_back 209 = .ok (.imul, 1) := by decide +kernel
theorem d_M_back_210 : decode b_M_back 210 = .ok (.ishr, 1) := by decide +kernel
theorem d_M_back_211 : decode b_M_back 211 = .ok (.sipush 255, 3) := by decide +kernel
theorem d_M_back_214 : decode b_M_back 214 = .ok (.iand, 1) := by decide +kernel
theorem d_M_back_215 : decode b_M_back 215 = .ok (.iastore, 1) := by decide +kernel
theorem d_M_back_216 : decode b_M_back 216 = .ok (.iinc 4 1, 3) := by decide +kernel
theorem d_M_back_219 : decode b_M_back 219 = .ok (.goto (-66), 3) := by decide +kernel
theorem d_M_back_222 : decode b_M_back 222 = .ok (.aload_n 0, 1) := by decide +kernel
theorem d_M_back_223 : decode b_M_back 223 = .ok (.aload_n 0, 1) := by decide +kernel
theorem d_M_back_224 : decode b_M_back 224 = .ok (.getfield 251, 3) := by decide +kernel
theorem d_M_back_227 : decode b_M_back 227 = .ok (.bipush 100, 2) := by decide +kernel
theorem d_M_back_229 : decode b_M_back 229 = .ok (.iadd, 1) := by decide +kernel
theorem d_M_back_230 : decode b_M_back 230 = .ok (.iconst 1, 1) := by decide +kernel
theorem d_M_back_231 : decode b_M_back 231 = .ok (.isub, 1) := by decide +kernel
theorem d_M_back_232 : decode b_M_back 232 = .ok (.bipush 100, 2) := by decide +kernel
theorem d_M_back_234 : decode b_M_back 234 = .ok (.irem, 1) := by decide +kernel
theorem d_M_back_235 : decode b_M_back 235 = .ok (.putfield 251, 3) := by decide +kernel
theorem d_M_back_238 : decode b_M_back 238 = .ok (.aload_n 0, 1) := by decide +kernel
theorem d_M_back_239 : decode b_M_back 239 = .ok (.dup, 1) := by decide +kernel
theorem d_M_back_240 : decode b_M_back 240 = .ok (.getfield 180, 3) := by decide +kernel
theorem d_M_back_243 : decode b_M_back 243 = .ok (.iconst 1, 1) := by decide +kernel
theorem d_M_back_244 : decode b_M_back 244 = .ok (.isub, 1) := by decide +kernel
theorem d_M_back_245 : decode b_M_back 245 = .ok (.putfield 180, 3) := by decide +kernel
theorem d_M_back_248 : decode b_M_back 248 = .ok (.iinc 2 1, 3) := by decide +kernel
theorem d_M_back_251 : decode b_M_back 251 = .ok (.goto (-249), 3) := by decide +kernel
theorem d_M_back_254 : decode b_M_back 254 = .ok (.iload_n 2, 1) := by decide +kernel
theorem d_M_back_255 : decode b_M_back 255 = .ok (.ireturn, 1) := by decide +kernel
theorem d_M_state_0 : decode b_M_state 0 = .ok (.iload_n 1, 1) := by decide +kernel
theorem d_M_state_1 : decode b_M_state 1 = .ok (.tableswitch 101 0 8 #[51, 56, 61, 66, 71, 76, 81, 91, 96], 51) := by decide +kernel
theorem d_M_state_52 : decode b_M_state 52 = .ok (.aload_n 0, 1) := by decide +kernel
theorem d_M_state_53 : decode b_M_state 53 = .ok (.getfield 198, 3) := by decide +kernel
theorem d_M_state_56 : decode b_M_state 56 = .ok (.ireturn, 1) := by decide +kernel
theorem d_M_state_57 : decode b_M_state 57 = .ok (.aload_n 0, 1) := by decide +kernel
theorem d_M_state_58 : decode b_M_state 58 = .ok (.getfield 201, 3) := by decide +kernel
theorem d_M_state_61 : decode b_M_state 61 = .ok (.ireturn, 1) := by decide +kernel
theorem d_M_state_62 : decode b_M_state 62 = .ok (.aload_n 0, 1) := by decide +kernel
theorem d_M_state_63 : decode b_M_state 63 = .ok (.getfield 254, 3) := by decide +kernel
theorem d_M_state_66 : decode b_M_state 66 = .ok (.ireturn, 1) := by decide +kernel
theorem d_M_state_67 : decode b_M_state 67 = .ok (.aload_n 0, 1) := by decide +kernel
theorem d_M_state_68 : decode b_M_state 68 = .ok (.getfield 257, 3) := by decide +kernel
theorem d_M_state_71 : decode b_M_state 71 = .ok (.ireturn, 1) := by decide +kernel
theorem d_M_state_72 : decode b_M_state 72 = .ok (.aload_n 0, 1) := by decide +kernel
theorem d_M_state_73 : decode b_M_state 73 = .ok (.getfield 260, 3) := by decide +kernel
theorem d_M_state_76 : decode b_M_state 76 = .ok (.ireturn, 1) := by decide +kernel
theorem d_M_state_77 : decode b_M_state 77 = .ok (.aload_n 0, 1) := by decide +kernel
theorem d_M_state_78 : decode b_M_state 78 = .ok (.getfield 263, 3) := by decide +kernel
theorem d_M_state_81 : decode b_M_state 81 = .ok (.ireturn, 1) := by decide +kernel
theorem d_M_state_82 : decode b_M_state 82 = .ok (.aload_n 0, 1) := by decide +kernel
theorem d_M_state_83 : decode b_M_state 83 = .ok (.getfield 204, 3) := by decide +kernel
theorem d_M_state_86 : decode b_M_state 86 = .ok (.aload_n 0, 1) := by decide +kernel
theorem d_M_state_87 : decode b_M_state 87 = .ok (.getfield 266, 3) := by decide +kernel
theorem d_M_state_90 : decode b_M_state 90 = .ok (.isub, 1) := by decide +kernel
theorem d_M_state_91 : decode b_M_state 91 = .ok (.ireturn, 1) := by decide +kernel
theorem d_M_state_92 : decode b_M_state 92 = .ok (.aload_n 0, 1) := by decide +kernel
theorem d_M_state_93 : decode b_M_state 93 = .ok (.getfield 180, 3) := by decide +kernel
theorem d_M_state_96 : decode b_M_state 96 = .ok (.ireturn, 1) := by decide +kernel
theorem d_M_state_97 : decode b_M_state 97 = .ok (.aload_n 0, 1) := by decide +kernel
theorem d_M_state_98 : decode b_M_state 98 = .ok (.getfield 207, 3) := by decide +kernel
theorem d_M_state_101 : decode b_M_state 101 = .ok (.ireturn, 1) := by decide +kernel
theorem d_M_state_102 : decode b_M_state 102 = .ok (.iconst (-1), 1) := by decide +kernel
theorem d_M_state_103 : decode b_M_state 103 = .ok (.ireturn, 1) := by decide +kernel
theorem d_M_output_0 : decode b_M_output 0 = .ok (.iload_n 1, 1) := by decide +kernel
theorem d_M_output_1 : decode b_M_output 1 = .ok (.ifCond .lt 20, 3) := by decide +kernel
theorem d_M_output_4 : decode b_M_output 4 = .ok (.iload_n 1, 1) := by decide +kernel
theorem d_M_output_5 : decode b_M_output 5 = .ok (.aload_n 0, 1) := by decide +kernel
theorem d_M_output_6 : decode b_M_output 6 = .ok (.getfield 263, 3) := by decide +kernel
theorem d_M_output_9 : decode b_M_output 9 = .ok (.if_icmp .ge 12, 3) := by decide +kernel
theorem d_M_output_12 : decode b_M_output 12 = .ok (.aload_n 0, 1) := by decide +kernel
theorem d_M_output_13 : decode b_M_output 13 = .ok (.getfield 43, 3) := by decide +kernel
theorem d_M_output_16 : decode b_M_output 16 = .ok (.iload_n 1, 1) := by decide +kernel
theorem d_M_output_17 : decode b_M_output 17 = .ok (.iaload, 1) := by decide +kernel
theorem d_M_output_18 : decode b_M_output 18 = .ok (.goto 4, 3) := by decide +kernel
theorem d_M_output_21 : decode b_M_output 21 = .ok (.iconst (-1), 1) := by decide +kernel
theorem d_M_output_22 : decode b_M_output 22 = .ok (.ireturn, 1) := by decide +kernel
theorem d_M_rights_0 : decode b_M_rights 0 = .ok (.aload_n 0, 1) := by decide +kernel
theorem d_M_rights_1 : decode b_M_rights 1 = .ok (.iload_n 1, 1) := by decide +kernel
theorem d_M_rights_2 : decode b_M_rights 2 = .ok (.i2l, 1) := by decide +kernel
theorem d_M_rights_3 : decode b_M_rights 3 = .ok (.invokevirtual 215, 3) := by decide +kernel
theorem d_M_rights_6 : decode b_M_rights 6 = .ok (.aload_n 0, 1) := by decide +kernel
theorem d_M_rights_7 : decode b_M_rights 7 = .ok (.iload_n 1, 1) := by decide +kernel
theorem d_M_rights_8 : decode b_M_rights 8 = .ok (.i2l, 1) := by decide +kernel
theorem d_M_rights_9 : decode b_M_rights 9 = .ok (.invokevirtual 305, 3) := by decide +kernel
theorem d_M_rights_12 : decode b_M_rights 12 = .ok (.ifCond .eq 8, 3) := by decide +kernel
theorem d_M_rights_15 : decode b_M_rights 15 = .ok (.bipush 8, 2) := by decide +kernel
theorem d_M_rights_17 : decode b_M_rights 17 = .ok (.goto 4, 3) := by decide +kernel
theorem d_M_rights_20 : decode b_M_rights 20 = .ok (.iconst 0, 1) := by decide +kernel
theorem d_M_rights_21 : decode b_M_rights 21 = .ok (.iadd, 1) := by decide +kernel
theorem d_M_rights_22 : decode b_M_rights 22 = .ok (.ireturn, 1) := by decide +kernel
