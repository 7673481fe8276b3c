theorem d_X_state_84 : decode b_X_state 84 = .ok (.aload_n 0, 1) := by decide +kernel
theorem d_X_state_85 : decode b_X_state 85 = .ok (.getfield 49, 3) := by decide +kernel
theorem d_X_state_88 : decode b_X_state 88 = .ok (.getfield 131, 3) := by decide +kernel
theorem d_X_state_91 : decode b_X_state 91 = .ok (.ireturn, 1) := by decide +kernel
theorem d_X_state_92 : decode b_X_state 92 = .ok (.aload_n 0, 1) := by decide +kernel
theorem d_X_state_93 : decode b_X_state 93 = .ok (.getfield 33, 3) := by decide +kernel
theorem d_X_state_96 : decode b_X_state 96 = .ok (.getfield 156, 3) := by decide +kernel
theorem d_X_state_99 : decode b_X_state 99 = .ok (.ireturn, 1) := by decide +kernel
theorem d_X_state_100 : decode b_X_state 100 = .ok (.aload_n 0, 1) := by decide +kernel
theorem d_X_state_101 : decode b_X_state 101 = .ok (.getfield 33, 3) := by decide +kernel
theorem d_X_state_104 : decode b_X_state 104 = .ok (.getfield 159, 3) := by decide +kernel
theorem d_X_state_107 : decode b_X_state 107 = .ok (.aload_n 0, 1) := by decide +kernel
theorem d_X_state_108 : decode b_X_state 108 = .ok (.getfield 33, 3) := by decide +kernel
theorem d_X_state_111 : decode b_X_state 111 = .ok (.getfield 162, 3) := by decide +kernel
theorem d_X_state_114 : decode b_X_state 114 = .ok (.isub, 1) := by decide +kernel
theorem d_X_state_115 : decode b_X_state 115 = .ok (.ireturn, 1) := by decide +kernel
theorem d_X_state_116 : decode b_X_state 116 = .ok (.aload_n 0, 1) := by decide +kernel
theorem d_X_state_117 : decode b_X_state 117 = .ok (.getfield 40, 3) := by decide +kernel
theorem d_X_state_120 : decode b_X_state 120 = .ok (.getfield 165, 3) := by decide +kernel
theorem d_X_state_123 : decode b_X_state 123 = .ok (.ireturn, 1) := by decide +kernel
theorem d_X_state_124 : decode b_X_state 124 = .ok (.aload_n 0, 1) := by decide +kernel
theorem d_X_state_125 : decode b_X_state 125 = .ok (.getfield 26, 3) := by decide +kernel
theorem d_X_state_128 : decode b_X_state 128 = .ok (.getfield 168, 3) := by decide +kernel
theorem d_X_state_131 : decode b_X_state 131 = .ok (.ireturn, 1) := by decide +kernel
theorem d_X_state_132 : decode b_X_state 132 = .ok (.iconst (-1), 1) := by decide +kernel
theorem d_X_state_133 : decode b_X_state 133 = .ok (.ireturn, 1) := by decide +kernel
theorem d_X_output_0 : decode b_X_output 0 = .ok (.aload_n 0, 1) := by decide +kernel
theorem d_X_output_1 : decode b_X_output 1 = .ok (.getfield 33, 3) := by decide +kernel
theorem d_X_output_4 : decode b_X_output 4 = .ok (.iload_n 1, 1) := by decide +kernel
theorem d_X_output_5 : decode b_X_output 5 = .ok (.invokevirtual 169, 3) := by decide +kernel
theorem d_X_output_8 : decode b_X_output 8 = .ok (.ireturn, 1) := by decide +kernel
theorem d_X_rights_0 : decode b_X_rights 0 = .ok (.aload_n 0, 1) := by decide +kernel
theorem d_X_rights_1 : decode b_X_rights 1 = .ok (.getfield 19, 3) := by decide +kernel
theorem d_X_rights_4 : decode b_X_rights 4 = .ok (.iload_n 1, 1) := by decide +kernel
theorem d_X_rights_5 : decode b_X_rights 5 = .ok (.invokevirtual 172, 3) := by decide +kernel
theorem d_X_rights_8 : decode b_X_rights 8 = .ok (.aload_n 0, 1) := by decide +kernel
theorem d_X_rights_9 : decode b_X_rights 9 = .ok (.getfield 19, 3) := by decide +kernel
theorem d_X_rights_12 : decode b_X_rights 12 = .ok (.iload_n 1, 1) := by decide +kernel
theorem d_X_rights_13 : decode b_X_rights 13 = .ok (.invokevirtual 175, 3) := by decide +kernel
theorem d_X_rights_16 : decode b_X_rights 16 = .ok (.ifCond .eq 8, 3) := by decide +kernel
theorem d_X_rights_19 : decode b_X_rights 19 = .ok (.bipush 8, 2) := by decide +kernel
theorem d_X_rights_21 : decode b_X_rights 21 = .ok (.goto 4, 3) := by decide +kernel
theorem d_X_rights_24 : decode b_X_rights 24 = .ok (.iconst 0, 1) := by decide +kernel
theorem d_X_rights_25 : decode b_X_rights 25 = .ok (.iadd, 1) := by decide +kernel
theorem d_X_rights_26 : decode b_X_rights 26 = .ok (.ireturn, 1) := by decide +kernel
theorem d_X_forgetIf_0 : decode b_X_forgetIf 0 = .ok (.iload_n 1, 1) := by decide +kernel
theorem d_X_forgetIf_1 : decode b_X_forgetIf 1 = .ok (.ifCond .eq 10, 3) := by decide +kernel
theorem d_X_forgetIf_4 : decode b_X_forgetIf 4 = .ok (.aload_n 0, 1) := by decide +kernel
theorem d_X_forgetIf_5 : decode b_X_forgetIf 5 = .ok (.getfield 40, 3) := by decide +kernel
theorem d_X_forgetIf_8 : decode b_X_forgetIf 8 = .ok (.invokevirtual 69, 3) := by decide +kernel
theorem d_X_forgetIf_11 : decode b_X_forgetIf 11 = .ok (.iload_n 1, 1) := by decide +kernel
theorem d_X_forgetIf_12 : decode b_X_forgetIf 12 = .ok (.ireturn, 1) := by decide +kernel
theorem d_X_byteOf_0 : decode b_X_byteOf 0 = .ok (.lload_n 0, 1) := by decide +kernel
theorem d_X_byteOf_1 : decode b_X_byteOf 1 = .ok (.bipush 56, 2) := by decide +kernel
theorem d_X_byteOf_3 : decode b_X_byteOf 3 = .ok (.bipush 8, 2) := by decide +kernel
theorem d_X_byteOf_5 : decode b_X_byteOf 5 = .ok (.iload_n 2, 1) := by decide +kernel
theorem d_X_byteOf_6 : decode b_X_byteOf 6 = .ok (.imul, 1) := by decide +kernel
theorem d_X_byteOf_7 : decode b_X_byteOf 7 = .ok (.isub, 1) := by decide +kernel
theorem d_X_byteOf_8 : decode b_X_byteOf 8 = .ok (.lushr, 1) := by decide +kernel
theorem d_X_byteOf_9 : decode b_X_byteOf 9 = .ok (.l2i, 1) := by decide +kernel
theorem d_X_byteOf_10 : decode b_X_byteOf 10 = .ok (.sipush 255, 3) := by decide +kernel
theorem d_X_byteOf_13 : decode b_X_byteOf 13 = .ok (.iand, 1) := by decide +kernel
theorem d_X_byteOf_14 : decode b_X_byteOf 14 = .ok (.ireturn, 1) := by decide +kernel
theorem d_Math_floorMod_0 : decode b_Math_floorMod 0 = .ok (.iload_n 0, 1) := by decide +kernel
theorem d_Math_floorMod_1 : decode b_Math_floorMod 1 = .ok (.iload_n 1, 1) := by decide +kernel
theorem d_Math_floorMod_2 : decode b_Math_floorMod 2 = .ok (.irem, 1) := by decide +kernel
theorem d_Math_floorMod_3 : decode b_Math_floorMod 3 = .ok (.istore_n 2, 1) := by decide +kernel
theorem d_Math_floorMod_4 : decode b_Math_floorMod 4 = .ok (.iload_n 0, 1) := by decide +kernel
theorem d_Math_floorMod_5 : decode b_Math_floorMod 5 = .ok (.iload_n 1, 1) := by decide +kernel
theorem d_Math_floorMod_6 : decode b_Math_floorMod 6 = .ok (.ixor, 1) := by decide +kernel
theorem d_Math_floorMod_7 : decode b_Math_floorMod 7 = .ok (.ifCond .ge 11, 3) := by decide +kernel
theorem d_Math_floorMod_10 : decode b_Math_floorMod 10 = .ok (.iload_n 2, 1) := by decide +kernel
theorem d_Math_floorMod_11 : decode b_Math_floorMod 11 = .ok (.ifCond .eq 7, 3) := by decide +kernel
theorem d_Math_floorMod_14 : decode b_Math_floorMod 14 = .ok (.iload_n 2, 1) := by decide +kernel
theorem d_Math_floorMod_15 : decode b_Math_floorMod 15 = .ok (.iload_n 1, 1) := by decide +kernel
theorem d_Math_floorMod_16 : decode b_Math_floorMod 16 = .ok (.iadd, 1) := by decide +kernel
theorem d_Math_floorMod_17 : decode b_Math_floorMod 17 = .ok (.ireturn, 1) := by decide +kernel
theorem d_Math_floorMod_18 : decode b_Math_floorMod 18 = .ok (.iload_n 2, 1) := by decide +kernel
theorem d_Math_floorMod_19 : decode b_Math_floorMod 19 = .ok (.ireturn, 1) := by decide +kernel
