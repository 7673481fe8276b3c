theorem d_Core_change_63 : decode b_Core_change 63 = .ok (.ishl, 1) := by decide +kernel
theorem d_Core_change_64 : decode b_Core_change 64 = .ok (.iadd, 1) := by decide +kernel
theorem d_Core_change_65 : decode b_Core_change 65 = .ok (.invokevirtual 118, 3) := by decide +kernel
theorem d_Core_change_68 : decode b_Core_change 68 = .ok (.pop, 1) := by decide +kernel
theorem d_Core_change_69 : decode b_Core_change 69 = .ok (.goto 136, 3) := by decide +kernel
theorem d_Core_change_72 : decode b_Core_change 72 = .ok (.aload_n 0, 1) := by decide +kernel
theorem d_Core_change_73 : decode b_Core_change 73 = .ok (.getfield 12, 3) := by decide +kernel
theorem d_Core_change_76 : decode b_Core_change 76 = .ok (.invokevirtual 142, 3) := by decide +kernel
theorem d_Core_change_79 : decode b_Core_change 79 = .ok (.ifCond .eq 35, 3) := by decide +kernel
theorem d_Core_change_82 : decode b_Core_change 82 = .ok (.aload_n 0, 1) := by decide +kernel
theorem d_Core_change_83 : decode b_Core_change 83 = .ok (.getfield 22, 3) := by decide +kernel
theorem d_Core_change_86 : decode b_Core_change 86 = .ok (.aload_n 0, 1) := by decide +kernel
theorem d_Core_change_87 : decode b_Core_change 87 = .ok (.invokevirtual 145, 3) := by decide +kernel
theorem d_Core_change_90 : decode b_Core_change 90 = .ok (.aload_n 0, 1) := by decide +kernel
theorem d_Core_change_91 : decode b_Core_change 91 = .ok (.getfield 12, 3) := by decide +kernel
theorem d_Core_change_94 : decode b_Core_change 94 = .ok (.invokevirtual 175, 3) := by decide +kernel
theorem d_Core_change_97 : decode b_Core_change 97 = .ok (.aload_n 0, 1) := by decide +kernel
theorem d_Core_change_98 : decode b_Core_change 98 = .ok (.aload_n 0, 1) := by decide +kernel
theorem d_Core_change_99 : decode b_Core_change 99 = .ok (.getfield 12, 3) := by decide +kernel
theorem d_Core_change_102 : decode b_Core_change 102 = .ok (.getfield 200, 3) := by decide +kernel
theorem d_Core_change_105 : decode b_Core_change 105 = .ok (.invokevirtual 139, 3) := by decide +kernel
theorem d_Core_change_108 : decode b_Core_change 108 = .ok (.invokevirtual 203, 3) := by decide +kernel
theorem d_Core_change_111 : decode b_Core_change 111 = .ok (.goto 94, 3) := by decide +kernel
theorem d_Core_change_114 : decode b_Core_change 114 = .ok (.aload_n 0, 1) := by decide +kernel
theorem d_Core_change_115 : decode b_Core_change 115 = .ok (.getfield 12, 3) := by decide +kernel
theorem d_Core_change_118 : decode b_Core_change 118 = .ok (.invokevirtual 175, 3) := by decide +kernel
theorem d_Core_change_121 : decode b_Core_change 121 = .ok (.ifCond .le 22, 3) := by decide +kernel
theorem d_Core_change_124 : decode b_Core_change 124 = .ok (.aload_n 0, 1) := by decide +kernel
theorem d_Core_change_125 : decode b_Core_change 125 = .ok (.aload_n 0, 1) := by decide +kernel
theorem d_Core_change_126 : decode b_Core_change 126 = .ok (.getfield 12, 3) := by decide +kernel
theorem d_Core_change_129 : decode b_Core_change 129 = .ok (.getfield 136, 3) := by decide +kernel
theorem d_Core_change_132 : decode b_Core_change 132 = .ok (.aload_n 0, 1) := by decide +kernel
theorem d_Core_change_133 : decode b_Core_change 133 = .ok (.invokevirtual 207, 3) := by decide +kernel
theorem d_Core_change_136 : decode b_Core_change 136 = .ok (.invokevirtual 118, 3) := by decide +kernel
theorem d_Core_change_139 : decode b_Core_change 139 = .ok (.pop, 1) := by decide +kernel
theorem d_Core_change_140 : decode b_Core_change 140 = .ok (.goto 65, 3) := by decide +kernel
theorem d_Core_change_143 : decode b_Core_change 143 = .ok (.iload_n 1, 1) := by decide +kernel
theorem d_Core_change_144 : decode b_Core_change 144 = .ok (.bipush 45, 2) := by decide +kernel
theorem d_Core_change_146 : decode b_Core_change 146 = .ok (.if_icmp .eq 59, 3) := by decide +kernel
theorem d_Core_change_149 : decode b_Core_change 149 = .ok (.iload_n 1, 1) := by decide +kernel
theorem d_Core_change_150 : decode b_Core_change 150 = .ok (.bipush 26, 2) := by decide +kernel
theorem d_Core_change_152 : decode b_Core_change 152 = .ok (.if_icmp .gt 13, 3) := by decide +kernel
theorem d_Core_change_155 : decode b_Core_change 155 = .ok (.aload_n 0, 1) := by decide +kernel
theorem d_Core_change_156 : decode b_Core_change 156 = .ok (.getfield 12, 3) := by decide +kernel
theorem d_Core_change_159 : decode b_Core_change 159 = .ok (.getfield 181, 3) := by decide +kernel
theorem d_Core_change_162 : decode b_Core_change 162 = .ok (.goto 14, 3) := by decide +kernel
theorem d_Core_change_165 : decode b_Core_change 165 = .ok (.aload_n 0, 1) := by decide +kernel
theorem d_Core_change_166 : decode b_Core_change 166 = .ok (.aload_n 0, 1) := by decide +kernel
theorem d_Core_change_167 : decode b_Core_change 167 = .ok (.getfield 12, 3) := by decide +kernel
theorem d_Core_change_170 : decode b_Core_change 170 = .ok (.getfield 200, 3) := by decide +kernel
theorem d_Core_change_173 : decode b_Core_change 173 = .ok (.invokevirtual 139, 3) := by decide +kernel
theorem d_Core_change_176 : decode b_Core_change 176 = .ok (.istore_n 2, 1) := by decide +kernel
theorem d_Core_change_177 : decode b_Core_change 177 = .ok (.aload_n 0, 1) := by decide +kernel
theorem d_Core_change_178 : decode b_Core_change 178 = .ok (.aload_n 0, 1) := by decide +kernel
theorem d_Core_change_179 : decode b_Core_change 179 = .ok (.getfield 12, 3) := by decide +kernel
theorem d_Core_change_182 : decode b_Core_change 182 = .ok (.getfield 136, 3) := by decide +kernel
theorem d_Core_change_185 : decode b_Core_change 185 = .ok (.iload_n 1, 1) := by decide +kernel
theorem d_Core_change_186 : decode b_Core_change 186 = .ok (.aload_n 0, 1) := by decide +kernel
theorem d_Core_change_187 : decode b_Core_change 187 = .ok (.aload_n 0, 1) := by decide +kernel
theorem d_Core_change_188 : decode b_Core_change 188 = .ok (.getfield 12, 3) := by decide +kernel
theorem d_Core_change_191 : decode b_Core_change 191 = .ok (.getfield 178, 3) := by decide +kernel
theorem d_Core_change_194 : decode b_Core_change 194 = .ok (.invokevirtual 139, 3) := by decide +kernel
theorem d_Core_change_197 : decode b_Core_change 197 = .ok (.iload_n 2, 1) := by decide +kernel
theorem d_Core_change_198 : decode b_Core_change 198 = .ok (.invokestatic 210, 3) := by decide +kernel
theorem d_Core_change_201 : decode b_Core_change 201 = .ok (.invokevirtual 118, 3) := by decide +kernel
theorem d_Core_change_204 : decode b_Core_change 204 = .ok (.pop, 1) := by decide +kernel
theorem d_Core_change_205 : decode b_Core_change 205 = .ok (.return_, 1) := by decide +kernel
theorem d_Core_loaded_0 : decode b_Core_loaded 0 = .ok (.aload_n 0, 1) := by decide +kernel
theorem d_Core_loaded_1 : decode b_Core_loaded 1 = .ok (.getfield 22, 3) := by decide +kernel
theorem d_Core_loaded_4 : decode b_Core_loaded 4 = .ok (.aload_n 0, 1) := by decide +kernel
theorem d_Core_loaded_5 : decode b_Core_loaded 5 = .ok (.invokevirtual 145, 3) := by decide +kernel
theorem d_Core_loaded_8 : decode b_Core_loaded 8 = .ok (.aload_n 0, 1) := by decide +kernel
theorem d_Core_loaded_9 : decode b_Core_loaded 9 = .ok (.getfield 12, 3) := by decide +kernel
theorem d_Core_loaded_12 : decode b_Core_loaded 12 = .ok (.invokevirtual 175, 3) := by decide +kernel
theorem d_Core_loaded_15 : decode b_Core_loaded 15 = .ok (.invokevirtual 155, 3) := by decide +kernel
theorem d_Core_loaded_18 : decode b_Core_loaded 18 = .ok (.istore_n 1, 1) := by decide +kernel
theorem d_Core_loaded_19 : decode b_Core_loaded 19 = .ok (.aload_n 0, 1) := by decide +kernel
theorem d_Core_loaded_20 : decode b_Core_loaded 20 = .ok (.getfield 12, 3) := by decide +kernel
theorem d_Core_loaded_23 : decode b_Core_loaded 23 = .ok (.getfield 133, 3) := by decide +kernel
theorem d_Core_loaded_26 : decode b_Core_loaded 26 = .ok (.lookupswitch 40 #[(10, 26), (11, 33)], 26) := by decide +kernel
theorem d_Core_loaded_52 : decode b_Core_loaded 52 = .ok (.iload_n 1, 1) := by decide +kernel
theorem d_Core_loaded_53 : decode b_Core_loaded 53 = .ok (.bipush 8, 2) := by decide +kernel
theorem d_Core_loaded_55 : decode b_Core_loaded 55 = .ok (.invokestatic 215, 3) := by decide +kernel
theorem d_Core_loaded_58 : decode b_Core_loaded 58 = .ok (.ireturn, 1) := by decide +kernel
theorem d_Core_loaded_59 : decode b_Core_loaded 59 = .ok (.iload_n 1, 1) := by decide +kernel
theorem d_Core_loaded_60 : decode b_Core_loaded 60 = .ok (.bipush 16, 2) := by decide +kernel
theorem d_Core_loaded_62 : decode b_Core_loaded 62 = .ok (.invokestatic 215, 3) := by decide +kernel
theorem d_Core_loaded_65 : decode b_Core_loaded 65 = .ok (.ireturn, 1) := by decide +kernel
theorem d_Core_loaded_66 : decode b_Core_loaded 66 = .ok (.iload_n 1, 1) := by decide +kernel
theorem d_Core_loaded_67 : decode b_Core_loaded 67 = .ok (.ireturn, 1) := by decide +kernel
theorem d_Core_goOn_0 : decode b_Core_goOn 0 = .ok (.aload_n 0, 1) := by decide +kernel
theorem d_Core_goOn_1 : decode b_Core_goOn 1 = .ok (.dup, 1) := by decide +kernel
theorem d_Core_goOn_2 : decode b_Core_goOn 2 = .ok (.getfield 38, 3) := by decide +kernel
theorem d_Core_goOn_5 : decode b_Core_goOn 5 = .ok (.aload_n 0, 1) := by decide +kernel
theorem d_Core_goOn_6 : decode b_Core_goOn 6 = .ok (.getfield 12, 3) := by decide +kernel
theorem d_Core_goOn_9 : decode b_Core_goOn 9 = .ok (.getfield 218, 3) := by decide +kernel
theorem d_Core_goOn_12 : decode b_Core_goOn 12 = .ok (.iadd, 1) := by decide +kernel
theorem d_Core_goOn_13 : decode b_Core_goOn 13 = .ok (.putfield 38, 3) := by decide +kernel
theorem d_Core_goOn_16 : decode b_Core_goOn 16 = .ok (.return_, 1) := by decide +kernel
theorem d_Core_link_0 : decode b_Core_link 0 = .ok (.aload_n 0, 1) := by decide +kernel
theorem d_Core_link_1 : decode b_Core_link 1 = .ok (.aload_n 0, 1) := by decide +kernel
theorem d_Core_link_2 : decode b_Core_link 2 = .ok (.getfield 12, 3) := by decide +kernel
theorem d_Core_link_5 : decode b_Core_link 5 = .ok (.getfield 136, 3) := by decide +kernel
theorem d_Core_link_8 : decode b_Core_link 8 = .ok (.aload_n 0, 1) := by decide +kernel
theorem d_Core_link_9 : decode b_Core_link 9 = .ok (.getfield 38, 3) := by decide +kernel
theorem d_Core_link_12 : decode b_Core_link 12 = .ok (.aload_n 0, 1) := by decide +kernel
theorem d_Core_link_13 : decode b_Core_link 13 = .ok (.getfield 12, 3) := by decide +kernel
theorem d_Core_link_16 : decode b_Core_link 16 = .ok (.getfield 218, 3) := by decide +kernel
theorem d_Core_link_19 : decode b_Core_link 19 = .ok (.iadd, 1) := by decide +kernel
theorem d_Core_link_20 : decode b_Core_link 20 = .ok (.invokevirtual 118, 3) := by decide +kernel
theorem d_Core_link_23 : decode b_Core_link 23 = .ok (.pop, 1) := by decide +kernel
theorem d_Core_link_24 : decode b_Core_link 24 = .ok (.aload_n 0, 1) := by decide +kernel
theorem d_Core_link_25 : decode b_Core_link 25 = .ok (.iload_n 1, 1) := by decide +kernel
theorem d_Core_link_26 : decode b_Core_link 26 = .ok (.invokevirtual 221, 3) := by decide +kernel
theorem d_Core_link_29 : decode b_Core_link 29 = .ok (.return_, 1) := by decide +kernel
theorem d_Core_branch_0 : decode b_Core_branch 0 = .ok (.aload_n 0, 1) := by decide +kernel
theorem d_Core_branch_1 : decode b_Core_branch 1 = .ok (.getfield 12, 3) := by decide +kernel
theorem d_Core_branch_4 : decode b_Core_branch 4 = .ok (.getfield 133, 3) := by decide +kernel
theorem d_Core_branch_7 : decode b_Core_branch 7 = .ok (.aload_n 0, 1) := by decide +kernel
theorem d_Core_branch_8 : decode b_Core_branch 8 = .ok (.aload_n 0, 1) := by decide +kernel
theorem d_Core_branch_9 : decode b_Core_branch 9 = .ok (.getfield 12, 3) := by decide +kernel
theorem d_Core_branch_12 : decode b_Core_branch 12 = .ok (.getfield 178, 3) := by decide +kernel
theorem d_Core_branch_15 : decode b_Core_branch 15 = .ok (.invokevirtual 139, 3) := by decide +kernel
theorem d_Core_branch_18 : decode b_Core_branch 18 = .ok (.aload_n 0, 1) := by decide +kernel
theorem d_Core_branch_19 : decode b_Core_branch 19 = .ok (.aload_n 0, 1) := by decide +kernel
theorem d_Core_branch_20 : decode b_Core_branch 20 = .ok (.getfield 12, 3) := by decide +kernel
theorem d_Core_branch_23 : decode b_Core_branch 23 = .ok (.getfield 200, 3) := by decide +kernel
theorem d_Core_branch_26 : decode b_Core_branch 26 = .ok (.invokevirtual 139, 3) := by decide +kernel
theorem d_Core_branch_29 : decode b_Core_branch 29 = .ok (.invokestatic 224, 3) := by decide +kernel
theorem d_Core_branch_32 : decode b_Core_branch 32 = .ok (.ifCond .eq 22, 3) := by decide +kernel
theorem d_Core_branch_35 : decode b_Core_branch 35 = .ok (.aload_n 0, 1) := by decide +kernel
theorem d_Core_branch_36 : decode b_Core_branch 36 = .ok (.aload_n 0, 1) := by decide +kernel
theorem d_Core_branch_37 : decode b_Core_branch 37 = .ok (.getfield 38, 3) := by decide +kernel
theorem d_Core_branch_40 : decode b_Core_branch 40 = .ok (.aload_n 0, 1) := by decide +kernel
theorem d_Core_branch_41 : decode b_Core_branch 41 = .ok (.getfield 12, 3) := by decide +kernel
theorem d_Core_branch_44 : decode b_Core_branch 44 = .ok (.getfield 181, 3) := by decide +kernel
theorem d_Core_branch_47 : decode b_Core_branch 47 = .ok (.iadd, 1) := by decide +kernel
theorem d_Core_branch_48 : decode b_Core_branch 48 = .ok (.invokevirtual 221, 3) := by decide +kernel
theorem d_Core_branch_51 : decode b_Core_branch 51 = .ok (.goto 7, 3) := by decide +kernel
theorem d_Core_branch_54 : decode b_Core_branch 54 = .ok (.aload_n 0, 1) := by decide +kernel
theorem d_Core_branch_55 : decode b_Core_branch 55 = .ok (.invokevirtual 197, 3) := by decide +kernel
theorem d_Core_branch_58 : decode b_Core_branch 58 = .ok (.return_, 1) := by decide +kernel
theorem d_Core_jump_0 : decode b_Core_jump 0 = .ok (.aload_n 0, 1) := by decide +kernel
theorem d_Core_jump_1 : decode b_Core_jump 1 = .ok (.iload_n 1, 1) := by decide +kernel
theorem d_Core_jump_2 : decode b_Core_jump 2 = .ok (.putfield 38, 3) := by decide +kernel
theorem d_Core_jump_5 : decode b_Core_jump 5 = .ok (.aload_n 0, 1) := by decide +kernel
theorem d_Core_jump_6 : decode b_Core_jump 6 = .ok (.getfield 26, 3) := by decide +kernel
theorem d_Core_jump_9 : decode b_Core_jump 9 = .ok (.getfield 48, 3) := by decide +kernel
theorem d_Core_jump_12 : decode b_Core_jump 12 = .ok (.ifCond .eq 20, 3) := by decide +kernel
theorem d_Core_jump_15 : decode b_Core_jump 15 = .ok (.aload_n 0, 1) := by decide +kernel
theorem d_Core_jump_16 : decode b_Core_jump 16 = .ok (.getfield 26, 3) := by decide +kernel
theorem d_Core_jump_19 : decode b_Core_jump 19 = .ok (.iload_n 1, 1) := by decide +kernel
theorem d_Core_jump_20 : decode b_Core_jump 20 = .ok (.invokevirtual 54, 3) := by decide +kernel
theorem d_Core_jump_23 : decode b_Core_jump 23 = .ok (.ifCond .ne 9, 3) := by decide +kernel
theorem d_Core_jump_26 : decode b_Core_jump 26 = .ok (.aload_n 0, 1) := by decide +kernel
theorem d_Core_jump_27 : decode b_Core_jump 27 = .ok (.iconst 5, 1) := by decide +kernel
theorem d_Core_jump_28 : decode b_Core_jump 28 = .ok (.iload_n 1, 1) := by decide +kernel
theorem d_Core_jump_29 : decode b_Core_jump 29 = .ok (.invokevirtual 78, 3) := by decide +kernel
theorem d_Core_jump_32 : decode b_Core_jump 32 = .ok (.return_, 1) := by decide +kernel
theorem d_Core_serve_0 : decode b_Core_serve 0 = .ok (.aload_n 0, 1) := by decide +kernel
theorem d_Core_serve_1 : decode b_Core_serve 1 = .ok (.bipush 10, 2) := by decide +kernel
theorem d_Core_serve_3 : decode b_Core_serve 3 = .ok (.invokevirtual 139, 3) := by decide +kernel
theorem d_Core_serve_6 : decode b_Core_serve 6 = .ok (.istore_n 1, 1) := by decide +kernel
theorem d_Core_serve_7 : decode b_Core_serve 7 = .ok (.aload_n 0, 1) := by decide +kernel
theorem d_Core_serve_8 : decode b_Core_serve 8 = .ok (.bipush 17, 2) := by decide +kernel
theorem d_Core_serve_10 : decode b_Core_serve 10 = .ok (.invokevirtual 139, 3) := by decide +kernel
theorem d_Core_serve_13 : decode b_Core_serve 13 = .ok (.tableswitch 113 1 10 #[55, 70, 84, 113, 113, 113, 113, 113, 113, 95], 55) := by decide +kernel
theorem d_Core_serve_68 : decode b_Core_serve 68 = .ok (.aload_n 0, 1) := by decide +kernel
theorem d_Core_serve_69 : decode b_Core_serve 69 = .ok (.aload_n 0, 1) := by decide +kernel
theorem d_Core_serve_70 : decode b_Core_serve 70 = .ok (.getfield 30, 3) := by decide +kernel
theorem d_Core_serve_73 : decode b_Core_serve 73 = .ok (.iload_n 1, 1) := by decide +kernel
theorem d_Core_serve_74 : decode b_Core_serve 74 = .ok (.invokevirtual 228, 3) := by decide +kernel
theorem d_Core_serve_77 : decode b_Core_serve 77 = .ok (.invokevirtual 231, 3) := by decide +kernel
theorem d_Core_serve_80 : decode b_Core_serve 80 = .ok (.goto 56, 3) := by decide +kernel
theorem d_Core_serve_83 : decode b_Core_serve 83 = .ok (.aload_n 0, 1) := by decide +kernel
theorem d_Core_serve_84 : decode b_Core_serve 84 = .ok (.aload_n 0, 1) := by decide +kernel
theorem d_Core_serve_85 : decode b_Core_serve 85 = .ok (.getfield 30, 3) := by decide +kernel
theorem d_Core_serve_88 : decode b_Core_serve 88 = .ok (.invokevirtual 234, 3) := by decide +kernel
theorem d_Core_serve_91 : decode b_Core_serve 91 = .ok (.invokevirtual 231, 3) := by decide +kernel
theorem d_Core_serve_94 : decode b_Core_serve 94 = .ok (.goto 42, 3) := by decide +kernel
theorem d_Core_serve_97 : decode b_Core_serve 97 = .ok (.aload_n 0, 1) := by decide +kernel
theorem d_Core_serve_98 : decode b_Core_serve 98 = .ok (.aload_n 0, 1) := by decide +kernel
theorem d_Core_serve_99 : decode b_Core_serve 99 = .ok (.getfield 85, 3) := by decide +kernel
theorem d_Core_serve_102 : decode b_Core_serve 102 = .ok (.invokevirtual 231, 3) := by decide +kernel
theorem d_Core_serve_105 : decode b_Core_serve 105 = .ok (.goto 31, 3) := by decide +kernel
theorem d_Core_serve_108 : decode b_Core_serve 108 = .ok (.aload_n 0, 1) := by decide +kernel
theorem d_Core_serve_109 : decode b_Core_serve 109 = .ok (.iload_n 1, 1) := by decide +kernel
theorem d_Core_serve_110 : decode b_Core_serve 110 = .ok (.putfield 99, 3) := by decide +kernel
theorem d_Core_serve_113 : decode b_Core_serve 113 = .ok (.aload_n 0, 1) := by decide +kernel
theorem d_Core_serve_114 : decode b_Core_serve 114 = .ok (.bipush 8, 2) := by decide +kernel
theorem d_Core_serve_116 : decode b_Core_serve 116 = .ok (.aload_n 0, 1) := by decide +kernel
theorem d_Core_serve_117 : decode b_Core_serve 117 = .ok (.getfield 38, 3) := by decide +kernel
theorem d_Core_serve_120 : decode b_Core_serve 120 = .ok (.invokevirtual 78, 3) := by decide +kernel
theorem d_Core_serve_123 : decode b_Core_serve 123 = .ok (.goto 13, 3) := by decide +kernel
theorem d_Core_serve_126 : decode b_Core_serve 126 = .ok (.aload_n 0, 1) := by decide +kernel
theorem d_Core_serve_127 : decode b_Core_serve 127 = .ok (.bipush 7, 2) := by decide +kernel
theorem d_Core_serve_129 : decode b_Core_serve 129 = .ok (.aload_n 0, 1) := by decide +kernel
theorem d_Core_serve_130 : decode b_Core_serve 130 = .ok (.getfield 38, 3) := by decide +kernel
theorem d_Core_serve_133 : decode b_Core_serve 133 = .ok (.invokevirtual 78, 3) := by decide +kernel
theorem d_Core_serve_136 : decode b_Core_serve 136 = .ok (.return_, 1) := by decide +kernel
theorem d_Core_answer_0 : decode b_Core_answer 0 = .ok (.aload_n 0, 1) := by decide +kernel
theorem d_Core_answer_1 : decode b_Core_answer 1 = .ok (.bipush 10, 2) := by decide +kernel
theorem d_Core_answer_3 : decode b_Core_answer 3 = .ok (.iload_n 1, 1) := by decide +kernel
theorem d_Core_answer_4 : decode b_Core_answer 4 = .ok (.invokevirtual 118, 3) := by decide +kernel
theorem d_Core_answer_7 : decode b_Core_answer 7 = .ok (.pop, 1) := by decide +kernel
theorem d_Core_answer_8 : decode b_Core_answer 8 = .ok (.aload_n 0, 1) := by decide +kernel
theorem d_Core_answer_9 : decode b_Core_answer 9 = .ok (.invokevirtual 197, 3) := by decide +kernel
theorem d_Core_answer_12 : decode b_Core_answer 12 = .ok (.return_, 1) := by decide +kernel
theorem d_Guar_init_0 : decode b_Guar_init 0 = .ok (.aload_n 0, 1) := by decide +kernel
theorem d_Guar_init_1 : decode b_Guar_init 1 = .ok (.invokespecial 3, 3) := by decide +kernel
theorem d_Guar_init_4 : decode b_Guar_init 4 = .ok (.aload_n 0, 1) := by decide +kernel
theorem d_Guar_init_5 : decode b_Guar_init 5 = .ok (.bipush 8, 2) := by decide +kernel
theorem d_Guar_init_7 : decode b_Guar_init 7 = .ok (.newarray .int, 2) := by decide +kernel
theorem d_Guar_init_9 : decode b_Guar_init 9 = .ok (.putfield 11, 3) := by decide +kernel
theorem d_Guar_init_12 : decode b_Guar_init 12 = .ok (.aload_n 0, 1) := by decide +kernel
theorem d_Guar_init_13 : decode b_Guar_init 13 = .ok (.bipush 8, 2) := by decide +kernel
theorem d_Guar_init_15 : decode b_Guar_init 15 = .ok (.newarray .int, 2) := by decide +kernel
theorem d_Guar_init_17 : decode b_Guar_init 17 = .ok (.putfield 15, 3) := by decide +kernel
theorem d_Guar_init_20 : decode b_Guar_init 20 = .ok (.aload_n 0, 1) := by decide +kernel
theorem d_Guar_init_21 : decode b_Guar_init 21 = .ok (.bipush 8, 2) := by decide +kernel
theorem d_Guar_init_23 : decode b_Guar_init 23 = .ok (.newarray .int, 2) := by decide +kernel
theorem d_Guar_init_25 : decode b_Guar_init 25 = .ok (.putfield 18, 3) := by decide +kernel
theorem d_Guar_init_28 : decode b_Guar_init 28 = .ok (.aload_n 0, 1) := by decide +kernel
theorem d_Guar_init_29 : decode b_Guar_init 29 = .ok (.sipush 2048, 3) := by decide +kernel
theorem d_Guar_init_32 : decode b_Guar_init 32 = .ok (.newarray .int, 2) := by decide +kernel
theorem d_Guar_init_34 : decode b_Guar_init 34 = .ok (.putfield 23, 3) := by decide +kernel
theorem d_Guar_init_37 : decode b_Guar_init 37 = .ok (.return_, 1) := by decide +kernel
theorem d_Guar_putSegment_0 : decode b_Guar_putSegment 0 = .ok (.iload_n 1, 1) := by decide +kernel
theorem d_Guar_putSegment_1 : decode b_Guar_putSegment 1 = .ok (.ifCond .lt 21, 3) := by decide +kernel
theorem d_Guar_putSegment_4 : decode b_Guar_putSegment 4 = .ok (.iload_n 1, 1) := by decide +kernel
theorem d_Guar_putSegment_5 : decode b_Guar_putSegment 5 = .ok (.bipush 8, 2) := by decide +kernel
theorem d_Guar_putSegment_7 : decode b_Guar_putSegment 7 = .ok (.if_icmp .ge 15, 3) := by decide +kernel
theorem d_Guar_putSegment_10 : decode b_Guar_putSegment 10 = .ok (.iload 4, 2) := by decide +kernel
theorem d_Guar_putSegment_12 : decode b_Guar_putSegment 12 = .ok (.ifCond .lt 10, 3) := by decide +kernel
theorem d_Guar_putSegment_15 : decode b_Guar_putSegment 15 = .ok (.iload 4, 2) := by decide +kernel
theorem d_Guar_putSegment_17 : decode b_Guar_putSegment 17 = .ok (.bipush 7, 2) := by decide +kernel
theorem d_Guar_putSegment_19 : decode b_Guar_putSegment 19 = .ok (.if_icmp .le 5, 3) := by decide +kernel
theorem d_Guar_putSegment_22 : decode b_Guar_putSegment 22 = .ok (.iconst 0, 1) := by decide +kernel
theorem d_Guar_putSegment_23 : decode b_Guar_putSegment 23 = .ok (.ireturn, 1) := by decide +kernel
theorem d_Guar_putSegment_24 : decode b_Guar_putSegment 24 = .ok (.iload_n 2, 1) := by decide +kernel
theorem d_Guar_putSegment_25 : decode b_Guar_putSegment 25 = .ok (.ifCond .lt 21, 3) := by decide +kernel
theorem d_Guar_putSegment_28 : decode b_Guar_putSegment 28 = .ok (.iload_n 3, 1) := by decide +kernel
theorem d_Guar_putSegment_29 : decode b_Guar_putSegment 29 = .ok (.ifCond .lt 17, 3) := by decide +kernel
theorem d_Guar_putSegment_32 : decode b_Guar_putSegment 32 = .ok (.iload_n 3, 1) := by decide +kernel
theorem d_Guar_putSegment_33 : decode b_Guar_putSegment 33 = .ok (.ldc 26, 2) := by decide +kernel
theorem d_Guar_putSegment_35 : decode b_Guar_putSegment 35 = .ok (.if_icmp .gt 11, 3) := by decide +kernel
theorem d_Guar_putSegment_38 : decode b_Guar_putSegment 38 = .ok (.iload_n 2, 1) := by decide +kernel
theorem d_Guar_putSegment_39 : decode b_Guar_putSegment 39 = .ok (.ldc 26, 2) := by decide +kernel
theorem d_Guar_putSegment_41 : decode b_Guar_putSegment 41 = .ok (.iload_n 3, 1) := by decide +kernel
theorem d_Guar_putSegment_42 : decode b_Guar_putSegment 42 = .ok (.isub, 1) := by decide +kernel
theorem d_Guar_putSegment_43 : decode b_Guar_putSegment 43 = .ok (.if_icmp .le 5, 3) := by decide +kernel
theorem d_Guar_putSegment_46 : decode b_Guar_putSegment 46 = .ok (.iconst 0, 1) := by decide +kernel
theorem d_Guar_putSegment_47 : decode b_Guar_putSegment 47 = .ok (.ireturn, 1) := by decide +kernel
theorem d_Guar_putSegment_48 : decode b_Guar_putSegment 48 = .ok (.aload_n 0, 1) := by decide +kernel
theorem d_Guar_putSegment_49 : decode b_Guar_putSegment 49 = .ok (.getfield 11, 3) := by decide +kernel
theorem d_Guar_putSegment_52 : decode b_Guar_putSegment 52 = .ok (.iload_n 1, 1) := by decide +kernel
theorem d_Guar_putSegment_53 : decode b_Guar_putSegment 53 = .ok (.iload_n 2, 1) := by decide +kernel
theorem d_Guar_putSegment_54 : decode b_Guar_putSegment 54 = .ok (.iastore, 1) := by decide +kernel
theorem d_Guar_putSegment_55 : decode b_Guar_putSegment 55 = .ok (.aload_n 0, 1) := by decide +kernel
theorem d_Guar_putSegment_56 : decode b_Guar_putSegment 56 = .ok (.getfield 15, 3) := by decide +kernel
theorem d_Guar_putSegment_59 : decode b_Guar_putSegment 59 = .ok (.iload_n 1, 1) := by decide +kernel
theorem d_Guar_putSegment_60 : decode b_Guar_putSegment 60 = .ok (.iload_n 3, 1) := by decide +kernel
theorem d_Guar_putSegment_61 : decode b_Guar_putSegment 61 = .ok (.iastore, 1) := by decide +kernel
theorem d_Guar_putSegment_62 : decode b_Guar_putSegment 62 = .ok (.aload_n 0, 1) := by decide +kernel
theorem d_Guar_putSegment_63 : decode b_Guar_putSegment 63 = .ok (.getfield 18, 3) := by decide +kernel
theorem d_Guar_putSegment_66 : decode b_Guar_putSegment 66 = .ok (.iload_n 1, 1) := by decide +kernel
theorem d_Guar_putSegment_67 : decode b_Guar_putSegment 67 = .ok (.iload 4, 2) := by decide +kernel
theorem d_Guar_putSegment_69 : decode b_Guar_putSegment 69 = .ok (.iastore, 1) := by decide +kernel
theorem d_Guar_putSegment_70 : decode b_Guar_putSegment 70 = .ok (.iconst 1, 1) := by decide +kernel
theorem d_Guar_putSegment_71 : decode b_Guar_putSegment 71 = .ok (.ireturn, 1) := by decide +kernel
theorem d_Guar_rightsAt_0 : decode b_Guar_rightsAt 0 = .ok (.iconst 0, 1) := by decide +kernel
theorem d_Guar_rightsAt_1 : decode b_Guar_rightsAt 1 = .ok (.istore_n 2, 1) := by decide +kernel
theorem d_Guar_rightsAt_2 : decode b_Guar_rightsAt 2 = .ok (.iload_n 2, 1) := by decide +kernel
theorem d_Guar_rightsAt_3 : decode b_Guar_rightsAt 3 = .ok (.bipush 8, 2) := by decide +kernel
theorem d_Guar_rightsAt_5 : decode b_Guar_rightsAt 5 = .ok (.if_icmp .ge 43, 3) := by decide +kernel
theorem d_Guar_rightsAt_8 : decode b_Guar_rightsAt 8 = .ok (.iload_n 1, 1) := by decide +kernel
theorem d_Guar_rightsAt_9 : decode b_Guar_rightsAt 9 = .ok (.aload_n 0, 1) := by decide +kernel
theorem d_Guar_rightsAt_10 : decode b_Guar_rightsAt 10 = .ok (.getfield 11, 3) := by decide +kernel
theorem d_Guar_rightsAt_13 : decode b_Guar_rightsAt 13 = .ok (.iload_n 2, 1) := by decide +kernel
theorem d_Guar_rightsAt_14 : decode b_Guar_rightsAt 14 = .ok (.iaload, 1) := by decide +kernel
theorem d_Guar_rightsAt_15 : decode b_Guar_rightsAt 15 = .ok (.if_icmp .lt 27, 3) := by decide +kernel
theorem d_Guar_rightsAt_18 : decode b_Guar_rightsAt 18 = .ok (.iload_n 1, 1) := by decide +kernel
theorem d_Guar_rightsAt_19 : decode b_Guar_rightsAt 19 = .ok (.aload_n 0, 1) := by decide +kernel
theorem d_Guar_rightsAt_20 : decode b_Guar_rightsAt 20 = .ok (.getfield 11, 3) := by decide +kernel
theorem d_Guar_rightsAt_23 : decode b_Guar_rightsAt 23 = .ok (.iload_n 2, 1) := by decide +kernel
theorem d_Guar_rightsAt_24 : decode b_Guar_rightsAt 24 = .ok (.iaload, 1) := by decide +kernel
theorem d_Guar_rightsAt_25 : decode b_Guar_rightsAt 25 = .ok (.isub, 1) := by decide +kernel
theorem d_Guar_rightsAt_26 : decode b_Guar_rightsAt 26 = .ok (.aload_n 0, 1) := by decide +kernel
theorem d_Guar_rightsAt_27 : decode b_Guar_rightsAt 27 = .ok (.getfield 15, 3) := by decide +kernel
theorem d_Guar_rightsAt_30 : decode b_Guar_rightsAt 30 = .ok (.iload_n 2, 1) := by decide +kernel
theorem d_Guar_rightsAt_31 : decode b_Guar_rightsAt 31 = .ok (.iaload, 1) := by decide +kernel
theorem d_Guar_rightsAt_32 : decode b_Guar_rightsAt 32 = .ok (.if_icmp .ge 10, 3) := by decide +kernel
theorem d_Guar_rightsAt_35 : decode b_Guar_rightsAt 35 = .ok (.aload_n 0, 1) := by decide +kernel
theorem d_Guar_rightsAt_36 : decode b_Guar_rightsAt 36 = .ok (.getfield 18, 3) := by decide +kernel
theorem d_Guar_rightsAt_39 : decode b_Guar_rightsAt 39 = .ok (.iload_n 2, 1) := by decide +kernel
theorem d_Guar_rightsAt_40 : decode b_Guar_rightsAt 40 = .ok (.iaload, 1) := by decide +kernel
theorem d_Guar_rightsAt_41 : decode b_Guar_rightsAt 41 = .ok (.ireturn, 1) := by decide +kernel
theorem d_Guar_rightsAt_42 : decode b_Guar_rightsAt 42 = .ok (.iinc 2 1, 3) := by decide +kernel
theorem d_Guar_rightsAt_45 : decode b_Guar_rightsAt 45 = .ok (.goto (-43), 3) := by decide +kernel
theorem d_Guar_rightsAt_48 : decode b_Guar_rightsAt 48 = .ok (.iconst 0, 1) := by decide +kernel
theorem d_Guar_rightsAt_49 : decode b_Guar_rightsAt 49 = .ok (.ireturn, 1) := by decide +kernel
theorem d_Guar_firstWithout_0 : decode b_Guar_firstWithout 0 = .ok (.iconst 0, 1) := by decide +kernel
theorem d_Guar_firstWithout_1 : decode b_Guar_firstWithout 1 = .ok (.istore 4, 2) := by decide +kernel
theorem d_Guar_firstWithout_3 : decode b_Guar_firstWithout 3 = .ok (.iload 4, 2) := by decide +kernel
theorem d_Guar_firstWithout_5 : decode b_Guar_firstWithout 5 = .ok (.iload_n 3, 1) := by decide +kernel
theorem d_Guar_firstWithout_6 : decode b_Guar_firstWithout 6 = .ok (.if_icmp .ge 25, 3) := by decide +kernel
theorem d_Guar_firstWithout_9 : decode b_Guar_firstWithout 9 = .ok (.aload_n 0, 1) := by decide +kernel
theorem d_Guar_firstWithout_10 : decode b_Guar_firstWithout 10 = .ok (.iload_n 2, 1) := by decide +kernel
theorem d_Guar_firstWithout_11 : decode b_Guar_firstWithout 11 = .ok (.iload 4, 2) := by decide +kernel
theorem d_Guar_firstWithout_13 : decode b_Guar_firstWithout 13 = .ok (.iadd, 1) := by decide +kernel
theorem d_Guar_firstWithout_14 : decode b_Guar_firstWithout 14 = .ok (.invokevirtual 27, 3) := by decide +kernel
theorem d_Guar_firstWithout_17 : decode b_Guar_firstWithout 17 = .ok (.iload_n 1, 1) := by decide +kernel
theorem d_Guar_firstWithout_18 : decode b_Guar_firstWithout 18 = .ok (.iand, 1) := by decide +kernel
theorem d_Guar_firstWithout_19 : decode b_Guar_firstWithout 19 = .ok (.ifCond .ne 6, 3) := by decide +kernel
theorem d_Guar_firstWithout_22 : decode b_Guar_firstWithout 22 = .ok (.iload 4, 2) := by decide +kernel
theorem d_Guar_firstWithout_24 : decode b_Guar_firstWithout 24 = .ok (.ireturn, 1) := by decide +kernel
theorem d_Guar_firstWithout_25 : decode b_Guar_firstWithout 25 = .ok (.iinc 4 1, 3) := by decide +kernel
theorem d_Guar_firstWithout_28 : decode b_Guar_firstWithout 28 = .ok (.goto (-25), 3) := by decide +kernel
theorem d_Guar_firstWithout_31 : decode b_Guar_firstWithout 31 = .ok (.iconst (-1), 1) := by decide +kernel
theorem d_Guar_firstWithout_32 : decode b_Guar_firstWithout 32 = .ok (.ireturn, 1) := by decide +kernel
theorem d_Guar_putMark_0 : decode b_Guar_putMark 0 = .ok (.iload_n 1, 1) := by decide +kernel
theorem d_Guar_putMark_1 : decode b_Guar_putMark 1 = .ok (.invokestatic 31, 3) := by decide +kernel
theorem d_Guar_putMark_4 : decode b_Guar_putMark 4 = .ok (.ifCond .ne 5, 3) := by decide +kernel
theorem d_Guar_putMark_7 : decode b_Guar_putMark 7 = .ok (.iconst 0, 1) := by decide +kernel
theorem d_Guar_putMark_8 : decode b_Guar_putMark 8 = .ok (.ireturn, 1) := by decide +kernel
theorem d_Guar_putMark_9 : decode b_Guar_putMark 9 = .ok (.iconst 1, 1) := by decide +kernel
theorem d_Guar_putMark_10 : decode b_Guar_putMark 10 = .ok (.iload_n 1, 1) := by decide +kernel
theorem d_Guar_putMark_11 : decode b_Guar_putMark 11 = .ok (.iconst 1, 1) := by decide +kernel
theorem d_Guar_putMark_12 : decode b_Guar_putMark 12 = .ok (.ishr, 1) := by decide +kernel
theorem d_Guar_putMark_13 : decode b_Guar_putMark 13 = .ok (.bipush 31, 2) := by decide +kernel
theorem d_Guar_putMark_15 : decode b_Guar_putMark 15 = .ok (.iand, 1) := by decide +kernel
theorem d_Guar_putMark_16 : decode b_Guar_putMark 16 = .ok (.ishl, 1) := by decide +kernel
theorem d_Guar_putMark_17 : decode b_Guar_putMark 17 = .ok (.istore_n 3, 1) := by decide +kernel
theorem d_Guar_putMark_18 : decode b_Guar_putMark 18 = .ok (.aload_n 0, 1) := by decide +kernel
theorem d_Guar_putMark_19 : decode b_Guar_putMark 19 = .ok (.getfield 23, 3) := by decide +kernel
theorem d_Guar_putMark_22 : decode b_Guar_putMark 22 = .ok (.iload_n 1, 1) := by decide +kernel
theorem d_Guar_putMark_23 : decode b_Guar_putMark 23 = .ok (.bipush 6, 2) := by decide +kernel
theorem d_Guar_putMark_25 : decode b_Guar_putMark 25 = .ok (.ishr, 1) := by decide +kernel
theorem d_Guar_putMark_26 : decode b_Guar_putMark 26 = .ok (.iaload, 1) := by decide +kernel
theorem d_Guar_putMark_27 : decode b_Guar_putMark 27 = .ok (.iload_n 3, 1) := by decide +kernel
theorem d_Guar_putMark_28 : decode b_Guar_putMark 28 = .ok (.iconst (-1), 1) := by decide +kernel
theorem d_Guar_putMark_29 : decode b_Guar_putMark 29 = .ok (.ixor, 1) := by decide +kernel
theorem d_Guar_putMark_30 : decode b_Guar_putMark 30 = .ok (.iand, 1) := by decide +kernel
theorem d_Guar_putMark_31 : decode b_Guar_putMark 31 = .ok (.istore 4, 2) := by decide +kernel
theorem d_Guar_putMark_33 : decode b_Guar_putMark 33 = .ok (.aload_n 0, 1) := by decide +kernel
theorem d_Guar_putMark_34 : decode b_Guar_putMark 34 = .ok (.getfield 23, 3) := by decide +kernel
theorem d_Guar_putMark_37 : decode b_Guar_putMark 37 = .ok (.iload_n 1, 1) := by decide +kernel
theorem d_Guar_putMark_38 : decode b_Guar_putMark 38 = .ok (.bipush 6, 2) := by decide +kernel
theorem d_Guar_putMark_40 : decode b_Guar_putMark 40 = .ok (.ishr, 1) := by decide +kernel
theorem d_Guar_putMark_41 : decode b_Guar_putMark 41 = .ok (.iload_n 2, 1) := by decide +kernel
theorem d_Guar_putMark_42 : decode b_Guar_putMark 42 = .ok (.ifCond .eq 10, 3) := by decide +kernel
theorem d_Guar_putMark_45 : decode b_Guar_putMark 45 = .ok (.iload 4, 2) := by decide +kernel
theorem d_Guar_putMark_47 : decode b_Guar_putMark 47 = .ok (.iload_n 3, 1) := by decide +kernel
theorem d_Guar_putMark_48 : decode b_Guar_putMark 48 = .ok (.ior, 1) := by decide +kernel
theorem d_Guar_putMark_49 : decode b_Guar_putMark 49 = .ok (.goto 5, 3) := by decide +kernel
theorem d_Guar_putMark_52 : decode b_Guar_putMark 52 = .ok (.iload 4, 2) := by decide +kernel
theorem d_Guar_putMark_54 : decode b_Guar_putMark 54 = .ok (.iastore, 1) := by decide +kernel
theorem d_Guar_putMark_55 : decode b_Guar_putMark 55 = .ok (.iconst 1, 1) := by decide +kernel
theorem d_Guar_putMark_56 : decode b_Guar_putMark 56 = .ok (.ireturn, 1) := by decide +kernel
theorem d_Guar_isMarked_0 : decode b_Guar_isMarked 0 = .ok (.iload_n 1, 1) := by decide +kernel
theorem d_Guar_isMarked_1 : decode b_Guar_isMarked 1 = .ok (.invokestatic 31, 3) := by decide +kernel
theorem d_Guar_isMarked_4 : decode b_Guar_isMarked 4 = .ok (.ifCond .eq 28, 3) := by decide +kernel
theorem d_Guar_isMarked_7 : decode b_Guar_isMarked 7 = .ok (.aload_n 0, 1) := by decide +kernel
theorem d_Guar_isMarked_8 : decode b_Guar_isMarked 8 = .ok (.getfield 23, 3) := by decide +kernel
theorem d_Guar_isMarked_11 : decode b_Guar_isMarked 11 = .ok (.iload_n 1, 1) := by decide +kernel
theorem d_Guar_isMarked_12 : decode b_Guar_isMarked 12 = .ok (.bipush 6, 2) := by decide +kernel
theorem d_Guar_isMarked_14 : decode b_Guar_isMarked 14 = .ok (.ishr, 1) := by decide +kernel
theorem d_Guar_isMarked_15 : decode b_Guar_isMarked 15 = .ok (.iaload, 1) := by decide +kernel
theorem d_Guar_isMarked_16 : decode b_Guar_isMarked 16 = .ok (.iload_n 1, 1) := by decide +kernel
theorem d_Guar_isMarked_17 : decode b_Guar_isMarked 17 = .ok (.iconst 1, 1) := by decide +kernel
theorem d_Guar_isMarked_18 : decode b_Guar_isMarked 18 = .ok (.ishr, 1) := by decide +kernel
theorem d_Guar_isMarked_19 : decode b_Guar_isMarked 19 = .ok (.bipush 31, 2) := by decide +kernel
theorem d_Guar_isMarked_21 : decode b_Guar_isMarked 21 = .ok (.iand, 1) := by decide +kernel
theorem d_Guar_isMarked_22 : decode b_Guar_isMarked 22 = .ok (.iushr, 1) := by decide +kernel
theorem d_Guar_isMarked_23 : decode b_Guar_isMarked 23 = .ok (.iconst 1, 1) := by decide +kernel
theorem d_Guar_isMarked_24 : decode b_Guar_isMarked 24 = .ok (.iand, 1) := by decide +kernel
theorem d_Guar_isMarked_25 : decode b_Guar_isMarked 25 = .ok (.ifCond .eq 7, 3) := by decide +kernel
theorem d_Guar_isMarked_28 : decode b_Guar_isMarked 28 = .ok (.iconst 1, 1) := by decide +kernel
theorem d_Guar_isMarked_29 : decode b_Guar_isMarked 29 = .ok (.goto 4, 3) := by decide +kernel
theorem d_Guar_isMarked_32 : decode b_Guar_isMarked 32 = .ok (.iconst 0, 1) := by decide +kernel
theorem d_Guar_isMarked_33 : decode b_Guar_isMarked 33 = .ok (.ireturn, 1) := by decide +kernel
theorem d_Guar_mayBeMarked_0 : decode b_Guar_mayBeMarked 0 = .ok (.iload_n 0, 1) := by decide +kernel
theorem d_Guar_mayBeMarked_1 : decode b_Guar_mayBeMarked 1 = .ok (.ifCond .lt 19, 3) := by decide +kernel
theorem d_Guar_mayBeMarked_4 : decode b_Guar_mayBeMarked 4 = .ok (.iload_n 0, 1) := by decide +kernel
theorem d_Guar_mayBeMarked_5 : decode b_Guar_mayBeMarked 5 = .ok (.ldc 26, 2) := by decide +kernel
theorem d_Guar_mayBeMarked_7 : decode b_Guar_mayBeMarked 7 = .ok (.if_icmp .ge 13, 3) := by decide +kernel
theorem d_Guar_mayBeMarked_10 : decode b_Guar_mayBeMarked 10 = .ok (.iload_n 0, 1) := by decide +kernel
theorem d_Guar_mayBeMarked_11 : decode b_Guar_mayBeMarked 11 = .ok (.iconst 1, 1) := by decide +kernel
theorem d_Guar_mayBeMarked_12 : decode b_Guar_mayBeMarked 12 = .ok (.iand, 1) := by decide +kernel
theorem d_Guar_mayBeMarked_13 : decode b_Guar_mayBeMarked 13 = .ok (.ifCond .ne 7, 3) := by decide +kernel
theorem d_Guar_mayBeMarked_16 : decode b_Guar_mayBeMarked 16 = .ok (.iconst 1, 1) := by decide +kernel
theorem d_Guar_mayBeMarked_17 : decode b_Guar_mayBeMarked 17 = .ok (.goto 4, 3) := by decide +kernel
theorem d_Guar_mayBeMarked_20 : decode b_Guar_mayBeMarked 20 = .ok (.iconst 0, 1) := by decide +kernel
theorem d_Guar_mayBeMarked_21 : decode b_Guar_mayBeMarked 21 = .ok (.ireturn, 1) := by decide +kernel
theorem d_Halt_init_0 : decode b_Halt_init 0 = .ok (.aload_n 0, 1) := by decide +kernel
theorem d_Halt_init_1 : decode b_Halt_init 1 = .ok (.invokespecial 3, 3) := by decide +kernel
theorem d_Halt_init_4 : decode b_Halt_init 4 = .ok (.aload_n 0, 1) := by decide +kernel
theorem d_Halt_init_5 : decode b_Halt_init 5 = .ok (.bipush 8, 2) := by decide +kernel
theorem d_Halt_init_7 : decode b_Halt_init 7 = .ok (.newarray .int, 2) := by decide +kernel
theorem d_Halt_init_9 : decode b_Halt_init 9 = .ok (.putfield 11, 3) := by decide +kernel
theorem d_Halt_init_12 : decode b_Halt_init 12 = .ok (.return_, 1) := by decide +kernel
theorem d_Halt_has_0 : decode b_Halt_has 0 = .ok (.aload_n 0, 1) := by decide +kernel
theorem d_Halt_has_1 : decode b_Halt_has 1 = .ok (.iload_n 1, 1) := by decide +kernel
theorem d_Halt_has_2 : decode b_Halt_has 2 = .ok (.invokevirtual 15, 3) := by decide +kernel
theorem d_Halt_has_5 : decode b_Halt_has 5 = .ok (.iconst (-1), 1) := by decide +kernel
theorem d_Halt_has_6 : decode b_Halt_has 6 = .ok (.if_icmp .eq 7, 3) := by decide +kernel
theorem d_Halt_has_9 : decode b_Halt_has 9 = .ok (.iconst 1, 1) := by decide +kernel
theorem d_Halt_has_10 : decode b_Halt_has 10 = .ok (.goto 4, 3) := by decide +kernel
theorem d_Halt_has_13 : decode b_Halt_has 13 = .ok (.iconst 0, 1) := by decide +kernel
theorem d_Halt_has_14 : decode b_Halt_has 14 = .ok (.ireturn, 1) := by decide +kernel
theorem d_Halt_add_0 : decode b_Halt_add 0 = .ok (.iload_n 1, 1) := by decide +kernel
theorem d_Halt_add_1 : decode b_Halt_add 1 = .ok (.ifCond .lt 26, 3) := by decide +kernel
theorem d_Halt_add_4 : decode b_Halt_add 4 = .ok (.iload_n 1, 1) := by decide +kernel
theorem d_Halt_add_5 : decode b_Halt_add 5 = .ok (.iconst 1, 1) := by decide +kernel
theorem d_Halt_add_6 : decode b_Halt_add 6 = .ok (.iand, 1) := by decide +kernel
theorem d_Halt_add_7 : decode b_Halt_add 7 = .ok (.ifCond .ne 20, 3) := by decide +kernel
theorem d_Halt_add_10 : decode b_Halt_add 10 = .ok (.aload_n 0, 1) := by decide +kernel
theorem d_Halt_add_11 : decode b_Halt_add 11 = .ok (.iload_n 1, 1) := by decide +kernel
theorem d_Halt_add_12 : decode b_Halt_add 12 = .ok (.invokevirtual 19, 3) := by decide +kernel
theorem d_Halt_add_15 : decode b_Halt_add 15 = .ok (.ifCond .ne 12, 3) := by decide +kernel
theorem d_Halt_add_18 : decode b_Halt_add 18 = .ok (.aload_n 0, 1) := by decide +kernel
theorem d_Halt_add_19 : decode b_Halt_add 19 = .ok (.getfield 23, 3) := by decide +kernel
theorem d_Halt_add_22 : decode b_Halt_add 22 = .ok (.bipush 8, 2) := by decide +kernel
theorem d_Halt_add_24 : decode b_Halt_add 24 = .ok (.if_icmp .lt 5, 3) := by decide +kernel
theorem d_Halt_add_27 : decode b_Halt_add 27 = .ok (.iconst 0, 1) := by decide +kernel
theorem d_Halt_add_28 : decode b_Halt_add 28 = .ok (.ireturn, 1) := by decide +kernel
theorem d_Halt_add_29 : decode b_Halt_add 29 = .ok (.aload_n 0, 1) := by decide +kernel
theorem d_Halt_add_30 : decode b_Halt_add 30 = .ok (.getfield 11, 3) := by decide +kernel
theorem d_Halt_add_33 : decode b_Halt_add 33 = .ok (.aload_n 0, 1) := by decide +kernel
theorem d_Halt_add_34 : decode b_Halt_add 34 = .ok (.getfield 23, 3) := by decide +kernel
theorem d_Halt_add_37 : decode b_Halt_add 37 = .ok (.iload_n 1, 1) := by decide +kernel
theorem d_Halt_add_38 : decode b_Halt_add 38 = .ok (.iastore, 1) := by decide +kernel
theorem d_Halt_add_39 : decode b_Halt_add 39 = .ok (.aload_n 0, 1) := by decide +kernel
theorem d_Halt_add_40 : decode b_Halt_add 40 = .ok (.dup, 1) := by decide +kernel
theorem d_Halt_add_41 : decode b_Halt_add 41 = .ok (.getfield 23, 3) := by decide +kernel
theorem d_Halt_add_44 : decode b_Halt_add 44 = .ok (.iconst 1, 1) := by decide +kernel
theorem d_Halt_add_45 : decode b_Halt_add 45 = .ok (.iadd, 1) := by decide +kernel
theorem d_Halt_add_46 : decode b_Halt_add 46 = .ok (.putfield 23, 3) := by decide +kernel
theorem d_Halt_add_49 : decode b_Halt_add 49 = .ok (.iconst 1, 1) := by decide +kernel
theorem d_Halt_add_50 : decode b_Halt_add 50 = .ok (.ireturn, 1) := by decide +kernel
theorem d_Halt_remove_0 : decode b_Halt_remove 0 = .ok (.aload_n 0, 1) := by decide +kernel
theorem d_Halt_remove_1 : decode b_Halt_remove 1 = .ok (.iload_n 1, 1) := by decide +kernel
theorem d_Halt_remove_2 : decode b_Halt_remove 2 = .ok (.invokevirtual 15, 3) := by decide +kernel
theorem d_Halt_remove_5 : decode b_Halt_remove 5 = .ok (.istore_n 2, 1) := by decide +kernel
theorem d_Halt_remove_6 : decode b_Halt_remove 6 = .ok (.iload_n 2, 1) := by decide +kernel
theorem d_Halt_remove_7 : decode b_Halt_remove 7 = .ok (.iconst (-1), 1) := by decide +kernel
theorem d_Halt_remove_8 : decode b_Halt_remove 8 = .ok (.if_icmp .ne 5, 3) := by decide +kernel
theorem d_Halt_remove_11 : decode b_Halt_remove 11 = .ok (.iconst 0, 1) := by decide +kernel
theorem d_Halt_remove_12 : decode b_Halt_remove 12 = .ok (.ireturn, 1) := by decide +kernel
theorem d_Halt_remove_13 : decode b_Halt_remove 13 = .ok (.aload_n 0, 1) := by decide +kernel
theorem d_Halt_remove_14 : decode b_Halt_remove 14 = .ok (.dup, 1) := by decide +kernel
theorem d_Halt_remove_15 : decode b_Halt_remove 15 = .ok (.getfield 23, 3) := by decide +kernel
theorem d_Halt_remove_18 : decode b_Halt_remove 18 = .ok (.iconst 1, 1) := by decide +kernel
theorem d_Halt_remove_19 : decode b_Halt_remove 19 = .ok (.isub, 1) := by decide +kernel
theorem d_Halt_remove_20 : decode b_Halt_remove 20 = .ok (.putfield 23, 3) := by decide +kernel
theorem d_Halt_remove_23 : decode b_Halt_remove 23 = .ok (.aload_n 0, 1) := by decide +kernel
theorem d_Halt_remove_24 : decode b_Halt_remove 24 = .ok (.getfield 11, 3) := by decide +kernel
theorem d_Halt_remove_27 : decode b_Halt_remove 27 = .ok (.iload_n 2, 1) := by decide +kernel
theorem d_Halt_remove_28 : decode b_Halt_remove 28 = .ok (.aload_n 0, 1) := by decide +kernel
theorem d_Halt_remove_29 : decode b_Halt_remove 29 = .ok (.getfield 11, 3) := by decide +kernel
theorem d_Halt_remove_32 : decode b_Halt_remove 32 = .ok (.aload_n 0, 1) := by decide +kernel
theorem d_Halt_remove_33 : decode b_Halt_remove 33 = .ok (.getfield 23, 3) := by decide +kernel
theorem d_Halt_remove_36 : decode b_Halt_remove 36 = .ok (.iaload, 1) := by decide +kernel
theorem d_Halt_remove_37 : decode b_Halt_remove 37 = .ok (.iastore, 1) := by decide +kernel
theorem d_Halt_remove_38 : decode b_Halt_remove 38 = .ok (.iconst 1, 1) := by decide +kernel
theorem d_Halt_remove_39 : decode b_Halt_remove 39 = .ok (.ireturn, 1) := by decide +kernel
theorem d_Halt_find_0 : decode b_Halt_find 0 = .ok (.iconst 0, 1) := by decide +kernel
theorem d_Halt_find_1 : decode b_Halt_find 1 = .ok (.istore_n 2, 1) := by decide +kernel
theorem d_Halt_find_2 : decode b_Halt_find 2 = .ok (.iload_n 2, 1) := by decide +kernel
theorem d_Halt_find_3 : decode b_Halt_find 3 = .ok (.aload_n 0, 1) := by decide +kernel
theorem d_Halt_find_4 : decode b_Halt_find 4 = .ok (.getfield 23, 3) := by decide +kernel
theorem d_Halt_find_7 : decode b_Halt_find 7 = .ok (.if_icmp .ge 21, 3) := by decide +kernel
theorem d_Halt_find_10 : decode b_Halt_find 10 = .ok (.aload_n 0, 1) := by decide +kernel
theorem d_Halt_find_11 : decode b_Halt_find 11 = .ok (.getfield 11, 3) := by decide +kernel
theorem d_Halt_find_14 : decode b_Halt_find 14 = .ok (.iload_n 2, 1) := by decide +kernel
theorem d_Halt_find_15 : decode b_Halt_find 15 = .ok (.iaload, 1) := by decide +kernel
theorem d_Halt_find_16 : decode b_Halt_find 16 = .ok (.iload_n 1, 1) := by decide +kernel
theorem d_Halt_find_17 : decode b_Halt_find 17 = .ok (.if_icmp .ne 5, 3) := by decide +kernel
theorem d_Halt_find_20 : decode b_Halt_find 20 = .ok (.iload_n 2, 1) := by decide +kernel
theorem d_Halt_find_21 : decode b_Halt_find 21 = .ok (.ireturn, 1) := by decide +kernel
theorem d_Halt_find_22 : decode b_Halt_find 22 = .ok (.iinc 2 1, 3) := by decide +kernel
theorem d_Halt_find_25 : decode b_Halt_find 25 = .ok (.goto (-23), 3) := by decide +kernel
theorem d_Halt_find_28 : decode b_Halt_find 28 = .ok (.iconst (-1), 1) := by decide +kernel
theorem d_Halt_find_29 : decode b_Halt_find 29 = .ok (.ireturn, 1) := by decide +kernel
theorem d_Kept_init_0 : decode b_Kept_init 0 = .ok (.aload_n 0, 1) := by decide +kernel
theorem d_Kept_init_1 : decode b_Kept_init 1 = .ok (.invokespecial 1, 3) := by decide +kernel
theorem d_Kept_init_4 : decode b_Kept_init 4 = .ok (.return_, 1) := by decide +kernel
theorem d_Long_read_0 : decode b_Long_read 0 = .ok (.aload_n 1, 1) := by decide +kernel
theorem d_Long_read_1 : decode b_Long_read 1 = .ok (.iconst 4, 1) := by decide +kernel
theorem d_Long_read_2 : decode b_Long_read 2 = .ok (.invokevirtual 7, 3) := by decide +kernel
theorem d_Long_read_5 : decode b_Long_read 5 = .ok (.iload_n 0, 1) := by decide +kernel
theorem d_Long_read_6 : decode b_Long_read 6 = .ok (.bipush 7, 2) := by decide +kernel
theorem d_Long_read_8 : decode b_Long_read 8 = .ok (.iushr, 1) := by decide +kernel
theorem d_Long_read_9 : decode b_Long_read 9 = .ok (.bipush 31, 2) := by decide +kernel
theorem d_Long_read_11 : decode b_Long_read 11 = .ok (.iand, 1) := by decide +kernel
theorem d_Long_read_12 : decode b_Long_read 12 = .ok (.istore_n 2, 1) := by decide +kernel
theorem d_Long_read_13 : decode b_Long_read 13 = .ok (.iload_n 0, 1) := by decide +kernel
theorem d_Long_read_14 : decode b_Long_read 14 = .ok (.bipush 15, 2) := by decide +kernel
theorem d_Long_read_16 : decode b_Long_read 16 = .ok (.iushr, 1) := by decide +kernel
theorem d_Long_read_17 : decode b_Long_read 17 = .ok (.bipush 31, 2) := by decide +kernel
theorem d_Long_read_19 : decode b_Long_read 19 = .ok (.iand, 1) := by decide +kernel
theorem d_Long_read_20 : decode b_Long_read 20 = .ok (.istore_n 3, 1) := by decide +kernel
theorem d_Long_read_21 : decode b_Long_read 21 = .ok (.iload_n 0, 1) := by decide +kernel
theorem d_Long_read_22 : decode b_Long_read 22 = .ok (.bipush 20, 2) := by decide +kernel
theorem d_Long_read_24 : decode b_Long_read 24 = .ok (.iushr, 1) := by decide +kernel
theorem d_Long_read_25 : decode b_Long_read 25 = .ok (.bipush 31, 2) := by decide +kernel
theorem d_Long_read_27 : decode b_Long_read 27 = .ok (.iand, 1) := by decide +kernel
theorem d_Long_read_28 : decode b_Long_read 28 = .ok (.istore 4, 2) := by decide +kernel
theorem d_Long_read_30 : decode b_Long_read 30 = .ok (.iload_n 0, 1) := by decide +kernel
theorem d_Long_read_31 : decode b_Long_read 31 = .ok (.bipush 12, 2) := by decide +kernel
theorem d_Long_read_33 : decode b_Long_read 33 = .ok (.iushr, 1) := by decide +kernel
theorem d_Long_read_34 : decode b_Long_read 34 = .ok (.bipush 7, 2) := by decide +kernel
theorem d_Long_read_36 : decode b_Long_read 36 = .ok (.iand, 1) := by decide +kernel
theorem d_Long_read_37 : decode b_Long_read 37 = .ok (.istore 5, 2) := by decide +kernel
theorem d_Long_read_39 : decode b_Long_read 39 = .ok (.iload_n 0, 1) := by decide +kernel
theorem d_Long_read_40 : decode b_Long_read 40 = .ok (.bipush 20, 2) := by decide +kernel
theorem d_Long_read_42 : decode b_Long_read 42 = .ok (.ishr, 1) := by decide +kernel
theorem d_Long_read_43 : decode b_Long_read 43 = .ok (.istore 6, 2) := by decide +kernel
theorem d_Long_read_45 : decode b_Long_read 45 = .ok (.iload_n 0, 1) := by decide +kernel
theorem d_Long_read_46 : decode b_Long_read 46 = .ok (.bipush 127, 2) := by decide +kernel
theorem d_Long_read_48 : decode b_Long_read 48 = .ok (.iand, 1) := by decide +kernel
theorem d_Long_read_49 : decode b_Long_read 49 = .ok (.lookupswitch 245 #[(3, 173), (19, 216), (23, 98), (35, 193), (51, 224), (55, 83), (99, 150), (103, 128), (111, 113)], 83) := by decide +kernel
theorem d_Long_read_132 : decode b_Long_read 132 = .ok (.aload_n 1, 1) := by decide +kernel
theorem d_Long_read_133 : decode b_Long_read 133 = .ok (.iconst 0, 1) := by decide +kernel
theorem d_Long_read_134 : decode b_Long_read 134 = .ok (.iload_n 2, 1) := by decide +kernel
theorem d_Long_read_135 : decode b_Long_read 135 = .ok (.iconst 0, 1) := by decide +kernel
theorem d_Long_read_136 : decode b_Long_read 136 = .ok (.iconst 0, 1) := by decide +kernel
theorem d_Long_read_137 : decode b_Long_read 137 = .ok (.iload_n 0, 1) := by decide +kernel
theorem d_Long_read_138 : decode b_Long_read 138 = .ok (.bipush 12, 2) := by decide +kernel
theorem d_Long_read_140 : decode b_Long_read 140 = .ok (.iushr, 1) := by decide +kernel
theorem d_Long_read_141 : decode b_Long_read 141 = .ok (.invokevirtual 13, 3) := by decide +kernel
theorem d_Long_read_144 : decode b_Long_read 144 = .ok (.goto 162, 3) := by decide +kernel
theorem d_Long_read_147 : decode b_Long_read 147 = .ok (.aload_n 1, 1) := by decide +kernel
theorem d_Long_read_148 : decode b_Long_read 148 = .ok (.iconst 1, 1) := by decide +kernel
theorem d_Long_read_149 : decode b_Long_read 149 = .ok (.iload_n 2, 1) := by decide +kernel
theorem d_Long_read_150 : decode b_Long_read 150 = .ok (.iconst 0, 1) := by decide +kernel
theorem d_Long_read_151 : decode b_Long_read 151 = .ok (.iconst 0, 1) := by decide +kernel
theorem d_Long_read_152 : decode b_Long_read 152 = .ok (.iload_n 0, 1) := by decide +kernel
theorem d_Long_read_153 : decode b_Long_read 153 = .ok (.bipush 12, 2) := by decide +kernel
theorem d_Long_read_155 : decode b_Long_read 155 = .ok (.iushr, 1) := by decide +kernel
theorem d_Long_read_156 : decode b_Long_read 156 = .ok (.invokevirtual 13, 3) := by decide +kernel
theorem d_Long_read_159 : decode b_Long_read 159 = .ok (.goto 147, 3) := by decide +kernel
theorem d_Long_read_162 : decode b_Long_read 162 = .ok (.aload_n 1, 1) := by decide +kernel
theorem d_Long_read_163 : decode b_Long_read 163 = .ok (.iconst 2, 1) := by decide +kernel
theorem d_Long_read_164 : decode b_Long_read 164 = .ok (.iload_n 2, 1) := by decide +kernel
theorem d_Long_read_165 : decode b_Long_read 165 = .ok (.iconst 0, 1) := by decide +kernel
theorem d_Long_read_166 : decode b_Long_read 166 = .ok (.iconst 0, 1) := by decide +kernel
theorem d_Long_read_167 : decode b_Long_read 167 = .ok (.iload_n 0, 1) := by decide +kernel
theorem d_Long_read_168 : decode b_Long_read 168 = .ok (.invokestatic 17, 3) := by decide +kernel
theorem d_Long_read_171 : decode b_Long_read 171 = .ok (.invokevirtual 13, 3) := by decide +kernel
theorem d_Long_read_174 : decode b_Long_read 174 = .ok (.goto 132, 3) := by decide +kernel
theorem d_Long_read_177 : decode b_Long_read 177 = .ok (.aload_n 1, 1) := by decide +kernel
theorem d_Long_read_178 : decode b_Long_read 178 = .ok (.iload 5, 2) := by decide +kernel
theorem d_Long_read_180 : decode b_Long_read 180 = .ok (.ifCond .ne 7, 3) := by decide +kernel
theorem d_Long_read_183 : decode b_Long_read 183 = .ok (.iconst 3, 1) := by decide +kernel
theorem d_Long_read_184 : decode b_Long_read 184 = .ok (.goto 4, 3) := by decide +kernel
theorem d_Long_read_187 : decode b_Long_read 187 = .ok (.iconst (-1), 1) := by decide +kernel
theorem d_Long_read_188 : decode b_Long_read 188 = .ok (.iload_n 2, 1) := by decide +kernel
theorem d_Long_read_189 : decode b_Long_read 189 = .ok (.iload_n 3, 1) := by decide +kernel
theorem d_Long_read_190 : decode b_Long_read 190 = .ok (.iconst 0, 1) := by decide +kernel
theorem d_Long_read_191 : decode b_Long_read 191 = .ok (.iload 6, 2) := by decide +kernel
theorem d_Long_read_193 : decode b_Long_read 193 = .ok (.invokevirtual 13, 3) := by decide +kernel
theorem d_Long_read_196 : decode b_Long_read 196 = .ok (.goto 110, 3) := by decide +kernel
theorem d_Long_read_199 : decode b_Long_read 199 = .ok (.aload_n 1, 1) := by decide +kernel
theorem d_Long_read_200 : decode b_Long_read 200 = .ok (.getstatic 23, 3) := by decide +kernel
theorem d_Long_read_203 : decode b_Long_read 203 = .ok (.iload 5, 2) := by decide +kernel
theorem d_Long_read_205 : decode b_Long_read 205 = .ok (.invokestatic 27, 3) := by decide +kernel
theorem d_Long_read_208 : decode b_Long_read 208 = .ok (.iconst 0, 1) := by decide +kernel
theorem d_Long_read_209 : decode b_Long_read 209 = .ok (.iload_n 3, 1) := by decide +kernel
theorem d_Long_read_210 : decode b_Long_read 210 = .ok (.iload 4, 2) := by decide +kernel
theorem d_Long_read_212 : decode b_Long_read 212 = .ok (.iload_n 0, 1) := by decide +kernel
theorem d_Long_read_213 : decode b_Long_read 213 = .ok (.invokestatic 31, 3) := by decide +kernel
theorem d_Long_read_216 : decode b_Long_read 216 = .ok (.invokevirtual 13, 3) := by decide +kernel
theorem d_Long_read_219 : decode b_Long_read 219 = .ok (.goto 87, 3) := by decide +kernel
theorem d_Long_read_222 : decode b_Long_read 222 = .ok (.aload_n 1, 1) := by decide +kernel
theorem d_Long_read_223 : decode b_Long_read 223 = .ok (.getstatic 34, 3) := by decide +kernel
theorem d_Long_read_226 : decode b_Long_read 226 = .ok (.iload 5, 2) := by decide +kernel
theorem d_Long_read_228 : decode b_Long_read 228 = .ok (.invokestatic 27, 3) := by decide +kernel
theorem d_Long_read_231 : decode b_Long_read 231 = .ok (.iload_n 2, 1) := by decide +kernel
theorem d_Long_read_232 : decode b_Long_read 232 = .ok (.iload_n 3, 1) := by decide +kernel
theorem d_Long_read_233 : decode b_Long_read 233 = .ok (.iconst 0, 1) := by decide +kernel
theorem d_Long_read_234 : decode b_Long_read 234 = .ok (.iload 6, 2) := by decide +kernel
theorem d_Long_read_236 : decode b_Long_read 236 = .ok (.invokevirtual 13, 3) := by decide +kernel
theorem d_Long_read_239 : decode b_Long_read 239 = .ok (.goto 67, 3) := by decide +kernel
theorem d_Long_read_242 : decode b_Long_read 242 = .ok (.aload_n 1, 1) := by decide +kernel
theorem d_Long_read_243 : decode b_Long_read 243 = .ok (.getstatic 37, 3) := by decide +kernel
theorem d_Long_read_246 : decode b_Long_read 246 = .ok (.iload 5, 2) := by decide +kernel
theorem d_Long_read_248 : decode b_Long_read 248 = .ok (.invokestatic 27, 3) := by decide +kernel
theorem d_Long_read_251 : decode b_Long_read 251 = .ok (.iconst 0, 1) := by decide +kernel
theorem d_Long_read_252 : decode b_Long_read 252 = .ok (.iload_n 3, 1) := by decide +kernel
theorem d_Long_read_253 : decode b_Long_read 253 = .ok (.iload 4, 2) := by decide +kernel
theorem d_Long_read_255 : decode b_Long_read 255 = .ok (.iload_n 0, 1) := by decide +kernel
theorem d_Long_read_256 : decode b_Long_read 256 = .ok (.invokestatic 40, 3) := by decide +kernel
theorem d_Long_read_259 : decode b_Long_read 259 = .ok (.invokevirtual 13, 3) := by decide +kernel
theorem d_Long_read_262 : decode b_Long_read 262 = .ok (.goto 44, 3) := by decide +kernel
theorem d_Long_read_265 : decode b_Long_read 265 = .ok (.iload_n 0, 1) := by decide +kernel
theorem d_Long_read_266 : decode b_Long_read 266 = .ok (.aload_n 1, 1) := by decide +kernel
theorem d_Long_read_267 : decode b_Long_read 267 = .ok (.invokestatic 43, 3) := by decide +kernel
theorem d_Long_read_270 : decode b_Long_read 270 = .ok (.goto 36, 3) := by decide +kernel
theorem d_Long_read_273 : decode b_Long_read 273 = .ok (.aload_n 1, 1) := by decide +kernel
theorem d_Long_read_274 : decode b_Long_read 274 = .ok (.iload 5, 2) := by decide +kernel
theorem d_Long_read_276 : decode b_Long_read 276 = .ok (.iload_n 0, 1) := by decide +kernel
theorem d_Long_read_277 : decode b_Long_read 277 = .ok (.bipush 25, 2) := by decide +kernel
theorem d_Long_read_279 : decode b_Long_read 279 = .ok (.iushr, 1) := by decide +kernel
theorem d_Long_read_280 : decode b_Long_read 280 = .ok (.invokestatic 47, 3) := by decide +kernel
theorem d_Long_read_283 : decode b_Long_read 283 = .ok (.iload_n 2, 1) := by decide +kernel
theorem d_Long_read_284 : decode b_Long_read 284 = .ok (.iload_n 3, 1) := by decide +kernel
theorem d_Long_read_285 : decode b_Long_read 285 = .ok (.iload 4, 2) := by decide +kernel
theorem d_Long_read_287 : decode b_Long_read 287 = .ok (.iconst 0, 1) := by decide +kernel
theorem d_Long_read_288 : decode b_Long_read 288 = .ok (.invokevirtual 13, 3) := by decide +kernel
theorem d_Long_read_291 : decode b_Long_read 291 = .ok (.goto 15, 3) := by decide +kernel
theorem d_Long_read_294 : decode b_Long_read 294 = .ok (.aload_n 1, 1) := by decide +kernel
theorem d_Long_read_295 : decode b_Long_read 295 = .ok (.iload_n 0, 1) := by decide +kernel
theorem d_Long_read_296 : decode b_Long_read 296 = .ok (.invokestatic 51, 3) := by decide +kernel
theorem d_Long_read_299 : decode b_Long_read 299 = .ok (.iconst 0, 1) := by decide +kernel
theorem d_Long_read_300 : decode b_Long_read 300 = .ok (.iconst 0, 1) := by decide +kernel
theorem d_Long_read_301 : decode b_Long_read 301 = .ok (.iconst 0, 1) := by decide +kernel
theorem d_Long_read_302 : decode b_Long_read 302 = .ok (.iconst 0, 1) := by decide +kernel
theorem d_Long_read_303 : decode b_Long_read 303 = .ok (.invokevirtual 13, 3) := by decide +kernel
theorem d_Long_read_306 : decode b_Long_read 306 = .ok (.return_, 1) := by decide +kernel
theorem d_Long_kindIn_0 : decode b_Long_kindIn 0 = .ok (.iload_n 1, 1) := by decide +kernel
theorem d_Long_kindIn_1 : decode b_Long_kindIn 1 = .ok (.ifCond .lt 15, 3) := by decide +kernel
theorem d_Long_kindIn_4 : decode b_Long_kindIn 4 = .ok (.iload_n 1, 1) := by decide +kernel
theorem d_Long_kindIn_5 : decode b_Long_kindIn 5 = .ok (.aload_n 0, 1) := by decide +kernel
theorem d_Long_kindIn_6 : decode b_Long_kindIn 6 = .ok (.arraylength, 1) := by decide +kernel
theorem d_Long_kindIn_7 : decode b_Long_kindIn 7 = .ok (.if_icmp .ge 9, 3) := by decide +kernel
theorem d_Long_kindIn_10 : decode b_Long_kindIn 10 = .ok (.aload_n 0, 1) := by decide +kernel
theorem d_Long_kindIn_11 : decode b_Long_kindIn 11 = .ok (.iload_n 1, 1) := by decide +kernel
theorem d_Long_kindIn_12 : decode b_Long_kindIn 12 = .ok (.iaload, 1) := by decide +kernel
theorem d_Long_kindIn_13 : decode b_Long_kindIn 13 = .ok (.goto 4, 3) := by decide +kernel
theorem d_Long_kindIn_16 : decode b_Long_kindIn 16 = .ok (.iconst (-1), 1) := by decide +kernel
theorem d_Long_kindIn_17 : decode b_Long_kindIn 17 = .ok (.ireturn, 1) := by decide +kernel
theorem d_Long_kindOfPair_0 : decode b_Long_kindOfPair 0 = .ok (.iload_n 1, 1) := by decide +kernel
theorem d_Long_kindOfPair_1 : decode b_Long_kindOfPair 1 = .ok (.lookupswitch 59 #[(0, 35), (1, 43), (32, 51)], 35) := by decide +kernel
theorem d_Long_kindOfPair_36 : decode b_Long_kindOfPair 36 = .ok (.getstatic 54, 3) := by decide +kernel
theorem d_Long_kindOfPair_39 : decode b_Long_kindOfPair 39 = .ok (.iload_n 0, 1) := by decide +kernel
theorem d_Long_kindOfPair_40 : decode b_Long_kindOfPair 40 = .ok (.invokestatic 27, 3) := by decide +kernel
theorem d_Long_kindOfPair_43 : decode b_Long_kindOfPair 43 = .ok (.ireturn, 1) := by decide +kernel
theorem d_Long_kindOfPair_44 : decode b_Long_kindOfPair 44 = .ok (.getstatic 57, 3) := by decide +kernel
theorem d_Long_kindOfPair_47 : decode b_Long_kindOfPair 47 = .ok (.iload_n 0, 1) := by decide +kernel
theorem d_Long_kindOfPair_48 : decode b_Long_kindOfPair 48 = .ok (.invokestatic 27, 3) := by decide +kernel
theorem d_Long_kindOfPair_51 : decode b_Long_kindOfPair 51 = .ok (.ireturn, 1) := by decide +kernel
theorem d_Long_kindOfPair_52 : decode b_Long_kindOfPair 52 = .ok (.getstatic 60, 3) := by decide +kernel
theorem d_Long_kindOfPair_55 : decode b_Long_kindOfPair 55 = .ok (.iload_n 0, 1) := by decide +kernel
theorem d_Long_kindOfPair_56 : decode b_Long_kindOfPair 56 = .ok (.invokestatic 27, 3) := by decide +kernel
theorem d_Long_kindOfPair_59 : decode b_Long_kindOfPair 59 = .ok (.ireturn, 1) := by decide +kernel
theorem d_Long_kindOfPair_60 : decode b_Long_kindOfPair 60 = .ok (.iconst (-1), 1) := by decide +kernel
theorem d_Long_kindOfPair_61 : decode b_Long_kindOfPair 61 = .ok (.ireturn, 1) := by decide +kernel
theorem d_Long_kindOfWhole_0 : decode b_Long_kindOfWhole 0 = .ok (.iload_n 0, 1) := by decide +kernel
theorem d_Long_kindOfWhole_1 : decode b_Long_kindOfWhole 1 = .ok (.lookupswitch 44 #[(115, 38), (1048691, 41), (267386895, 35)], 35) := by decide +kernel
theorem d_Long_kindOfWhole_36 : decode b_Long_kindOfWhole 36 = .ok (.bipush 45, 2) := by decide +kernel
theorem d_Long_kindOfWhole_38 : decode b_Long_kindOfWhole 38 = .ok (.ireturn, 1) := by decide +kernel
theorem d_Long_kindOfWhole_39 : decode b_Long_kindOfWhole 39 = .ok (.bipush 46, 2) := by decide +kernel
theorem d_Long_kindOfWhole_41 : decode b_Long_kindOfWhole 41 = .ok (.ireturn, 1) := by decide +kernel
theorem d_Long_kindOfWhole_42 : decode b_Long_kindOfWhole 42 = .ok (.bipush 47, 2) := by decide +kernel
theorem d_Long_kindOfWhole_44 : decode b_Long_kindOfWhole 44 = .ok (.ireturn, 1) := by decide +kernel
theorem d_Long_kindOfWhole_45 : decode b_Long_kindOfWhole 45 = .ok (.iconst (-1), 1) := by decide +kernel
theorem d_Long_kindOfWhole_46 : decode b_Long_kindOfWhole 46 = .ok (.ireturn, 1) := by decide +kernel
theorem d_Long_readImmediate_0 : decode b_Long_readImmediate 0 = .ok (.iload_n 0, 1) := by decide +kernel
theorem d_Long_readImmediate_1 : decode b_Long_readImmediate 1 = .ok (.bipush 7, 2) := by decide +kernel
theorem d_Long_readImmediate_3 : decode b_Long_readImmediate 3 = .ok (.iushr, 1) := by decide +kernel
theorem d_Long_readImmediate_4 : decode b_Long_readImmediate 4 = .ok (.bipush 31, 2) := by decide +kernel
theorem d_Long_readImmediate_6 : decode b_Long_readImmediate 6 = .ok (.iand, 1) := by decide +kernel
theorem d_Long_readImmediate_7 : decode b_Long_readImmediate 7 = .ok (.istore_n 2, 1) := by decide +kernel
theorem d_Long_readImmediate_8 : decode b_Long_readImmediate 8 = .ok (.iload_n 0, 1) := by decide +kernel
theorem d_Long_readImmediate_9 : decode b_Long_readImmediate 9 = .ok (.bipush 15, 2) := by decide +kernel
theorem d_Long_readImmediate_11 : decode b_Long_readImmediate 11 = .ok (.iushr, 1) := by decide +kernel
theorem d_Long_readImmediate_12 : decode b_Long_readImmediate 12 = .ok (.bipush 31, 2) := by decide +kernel
theorem d_Long_readImmediate_14 : decode b_Long_readImmediate 14 = .ok (.iand, 1) := by decide +kernel
theorem d_Long_readImmediate_15 : decode b_Long_readImmediate 15 = .ok (.istore_n 3, 1) := by decide +kernel
theorem d_Long_readImmediate_16 : decode b_Long_readImmediate 16 = .ok (.iload_n 0, 1) := by decide +kernel
theorem d_Long_readImmediate_17 : decode b_Long_readImmediate 17 = .ok (.bipush 12, 2) := by decide +kernel
theorem d_Long_readImmediate_19 : decode b_Long_readImmediate 19 = .ok (.iushr, 1) := by decide +kernel
theorem d_Long_readImmediate_20 : decode b_Long_readImmediate 20 = .ok (.bipush 7, 2) := by decide +kernel
theorem d_Long_readImmediate_22 : decode b_Long_readImmediate 22 = .ok (.iand, 1) := by decide +kernel
theorem d_Long_readImmediate_23 : decode b_Long_readImmediate 23 = .ok (.istore 4, 2) := by decide +kernel
theorem d_Long_readImmediate_25 : decode b_Long_readImmediate 25 = .ok (.iload 4, 2) := by decide +kernel
theorem d_Long_readImmediate_27 : decode b_Long_readImmediate 27 = .ok (.iconst 1, 1) := by decide +kernel
theorem d_Long_readImmediate_28 : decode b_Long_readImmediate 28 = .ok (.if_icmp .eq 9, 3) := by decide +kernel
theorem d_Long_readImmediate_31 : decode b_Long_readImmediate 31 = .ok (.iload 4, 2) := by decide +kernel
theorem d_Long_readImmediate_33 : decode b_Long_readImmediate 33 = .ok (.iconst 5, 1) := by decide +kernel
theorem d_Long_readImmediate_34 : decode b_Long_readImmediate 34 = .ok (.if_icmp .ne 29, 3) := by decide +kernel
theorem d_Long_readImmediate_37 : decode b_Long_readImmediate 37 = .ok (.aload_n 1, 1) := by decide +kernel
theorem d_Long_readImmediate_38 : decode b_Long_readImmediate 38 = .ok (.iload 4, 2) := by decide +kernel
theorem d_Long_readImmediate_40 : decode b_Long_readImmediate 40 = .ok (.iload_n 0, 1) := by decide +kernel
theorem d_Long_readImmediate_41 : decode b_Long_readImmediate 41 = .ok (.bipush 25, 2) := by decide +kernel
theorem d_Long_readImmediate_43 : decode b_Long_readImmediate 43 = .ok (.iushr, 1) := by decide +kernel
theorem d_Long_readImmediate_44 : decode b_Long_readImmediate 44 = .ok (.invokestatic 63, 3) := by decide +kernel
theorem d_Long_readImmediate_47 : decode b_Long_readImmediate 47 = .ok (.iload_n 2, 1) := by decide +kernel
theorem d_Long_readImmediate_48 : decode b_Long_readImmediate 48 = .ok (.iload_n 3, 1) := by decide +kernel
theorem d_Long_readImmediate_49 : decode b_Long_readImmediate 49 = .ok (.iconst 0, 1) := by decide +kernel
theorem d_Long_readImmediate_50 : decode b_Long_readImmediate 50 = .ok (.iload_n 0, 1) := by decide +kernel
theorem d_Long_readImmediate_51 : decode b_Long_readImmediate 51 = .ok (.bipush 20, 2) := by decide +kernel
theorem d_Long_readImmediate_53 : decode b_Long_readImmediate 53 = .ok (.iushr, 1) := by decide +kernel
theorem d_Long_readImmediate_54 : decode b_Long_readImmediate 54 = .ok (.bipush 31, 2) := by decide +kernel
theorem d_Long_readImmediate_56 : decode b_Long_readImmediate 56 = .ok (.iand, 1) := by decide +kernel
theorem d_Long_readImmediate_57 : decode b_Long_readImmediate 57 = .ok (.invokevirtual 13, 3) := by decide +kernel
theorem d_Long_readImmediate_60 : decode b_Long_readImmediate 60 = .ok (.goto 22, 3) := by decide +kernel
theorem d_Long_readImmediate_63 : decode b_Long_readImmediate 63 = .ok (.aload_n 1, 1) := by decide +kernel
theorem d_Long_readImmediate_64 : decode b_Long_readImmediate 64 = .ok (.getstatic 66, 3) := by decide +kernel
