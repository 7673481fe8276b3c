def mF_StepMachineModel_opcodeOf (x0 : Int32) : Int32 := (if x0 = 0 then 55 else (if x0 = 1 then 23 else (if x0 = 2 then 111 else (if x0 = 3 then 103 else (if 10 ≤ x0 then (if 15 ≤ x0 then (if 18 ≤ x0 then (if 27 ≤ x0 then 51 else 19) else 35) else 3) else 99)))))
set_option maxHeartbeats 4000000 in
set_option maxRecDepth 100000 in
theorem mc_StepMachineModel_opcodeOf (l : Launch) (D : va_G) (tc : Nat → ClassId) (tb : Nat → Nat) (z0 : Nat) (x0 : Int32) : Met l y_M_opcodeOf (wM y_M_opcodeOf b_M_opcodeOf 1 (some .int)) ({ frames := 0, cells := 0, slots := 0, locals := 0 }) (va_Pc [.int x0] (Pr D tc tb z0 [])) (vp_Si (fun r => r = (mF_StepMachineModel_opcodeOf x0))) 0 0 (fun _ => False) := by
  refine Met.ofW (cc := b_M_opcodeOf) (maxL := 1) (ret := (some .int)) (by decide) rfl ?_
  intro p e s m args below meth c s₁ B hml hv
  obtain ⟨rfl, hP, hK, hB⟩ := hv
  have hx := B.exec
  have hb := B.bytes
  have hr := B.returns
  have hts : ∀ w ∈ wALL, w.before _ s = true := fun w h => atoms_spec (ws := (wM y_M_opcodeOf b_M_opcodeOf 1 (some .int))) B.pre w (List.mem_cons_of_mem _ h)
  have hown : s.vm.findClass "StepMachineModel" = some m.cls := findClass_of_methodNamed B.named
  have hlocks := B.notSynchronized
  have hl := lv_entry ([.int x0]) (n := 1) (Nat.le_of_ble_eq_true rfl)
  rw [lg_entry_eq]
  generalize (lg_sl ([.int x0]) ++ List.replicate (1 - (lg_sl ([.int x0])).length) Slot.unset).toArray = ls at hl ⊢
  have hl : lv_has ls 1 [(0, .int x0)] := hl
  refine lv_iload_n hx hb d_M_opcodeOf_0 rfl (lv_at hl 0 rfl) ?_
  refine lv_if_ne (tgt := 7) hx hb d_M_opcodeOf_1 (by decide) (fun c_1 => ?_) (fun c_1 => ?_)
  · skip
    refine lv_iload_n hx hb d_M_opcodeOf_7 rfl (lv_at hl 0 rfl) ?_
    refine lv_iconst (v := 1) hx hb d_M_opcodeOf_8 (by decide) ?_
    refine lv_icmp_ne (tgt := 15) hx hb d_M_opcodeOf_9 (by decide) (fun c_9 => ?_) (fun c_9 => ?_)
    · skip
      refine lv_iload_n hx hb d_M_opcodeOf_15 rfl (lv_at hl 0 rfl) ?_
      refine lv_iconst (v := 2) hx hb d_M_opcodeOf_16 (by decide) ?_
      refine lv_icmp_ne (tgt := 23) hx hb d_M_opcodeOf_17 (by decide) (fun c_17 => ?_) (fun c_17 => ?_)
      · skip
        refine lv_iload_n hx hb d_M_opcodeOf_23 rfl (lv_at hl 0 rfl) ?_
        refine lv_iconst (v := 3) hx hb d_M_opcodeOf_24 (by decide) ?_
        refine lv_icmp_ne (tgt := 31) hx hb d_M_opcodeOf_25 (by decide) (fun c_25 => ?_) (fun c_25 => ?_)
        · skip
          refine lv_iload_n hx hb d_M_opcodeOf_31 rfl (lv_at hl 0 rfl) ?_
          refine lv_bipush (v := 10) hx hb d_M_opcodeOf_32 (by decide) ?_
          refine lv_icmp_ge (tgt := 40) hx hb d_M_opcodeOf_34 (by decide) (fun c_34 => ?_) (fun c_34 => ?_)
          · skip
            refine lv_iload_n hx hb d_M_opcodeOf_40 rfl (lv_at hl 0 rfl) ?_
            refine lv_bipush (v := 15) hx hb d_M_opcodeOf_41 (by decide) ?_
            refine lv_icmp_ge (tgt := 48) hx hb d_M_opcodeOf_43 (by decide) (fun c_43 => ?_) (fun c_43 => ?_)
            · skip
              refine lv_iload_n hx hb d_M_opcodeOf_48 rfl (lv_at hl 0 rfl) ?_
              refine lv_bipush (v := 18) hx hb d_M_opcodeOf_49 (by decide) ?_
              refine lv_icmp_ge (tgt := 57) hx hb d_M_opcodeOf_51 (by decide) (fun c_51 => ?_) (fun c_51 => ?_)
              · skip
                refine lv_iload_n hx hb d_M_opcodeOf_57 rfl (lv_at hl 0 rfl) ?_
                refine lv_bipush (v := 27) hx hb d_M_opcodeOf_58 (by decide) ?_
                refine lv_icmp_ge (tgt := 68) hx hb d_M_opcodeOf_60 (by decide) (fun c_60 => ?_) (fun c_60 => ?_)
                · skip
                  refine lv_bipush (v := 51) hx hb d_M_opcodeOf_68 (by decide) ?_
                  exact W.iret (v := 51) hx hb hr (fun t ht hW => ⟨_, rfl, by rw [mF_StepMachineModel_opcodeOf, if_neg c_1, if_neg c_9, if_neg c_17, if_neg c_25, if_pos c_34, if_pos c_43, if_pos c_51, if_pos c_60], ht⟩) (fun q h => by cases h) d_M_opcodeOf_70
                · skip
                  refine lv_bipush (v := 19) hx hb d_M_opcodeOf_63 (by decide) ?_
                  refine lv_goto (tgt := 70) hx hb d_M_opcodeOf_65 (by decide) ?_
                  exact W.iret (v := 19) hx hb hr (fun t ht hW => ⟨_, rfl, by rw [mF_StepMachineModel_opcodeOf, if_neg c_1, if_neg c_9, if_neg c_17, if_neg c_25, if_pos c_34, if_pos c_43, if_pos c_51, if_neg c_60], ht⟩) (fun q h => by cases h) d_M_opcodeOf_70
              · skip
                refine lv_bipush (v := 35) hx hb d_M_opcodeOf_54 (by decide) ?_
                exact W.iret (v := 35) hx hb hr (fun t ht hW => ⟨_, rfl, by rw [mF_StepMachineModel_opcodeOf, if_neg c_1, if_neg c_9, if_neg c_17, if_neg c_25, if_pos c_34, if_pos c_43, if_neg c_51], ht⟩) (fun q h => by cases h) d_M_opcodeOf_56
            · skip
              refine lv_iconst (v := 3) hx hb d_M_opcodeOf_46 (by decide) ?_
              exact W.iret (v := 3) hx hb hr (fun t ht hW => ⟨_, rfl, by rw [mF_StepMachineModel_opcodeOf, if_neg c_1, if_neg c_9, if_neg c_17, if_neg c_25, if_pos c_34, if_neg c_43], ht⟩) (fun q h => by cases h) d_M_opcodeOf_47
          · skip
            refine lv_bipush (v := 99) hx hb d_M_opcodeOf_37 (by decide) ?_
            exact W.iret (v := 99) hx hb hr (fun t ht hW => ⟨_, rfl, by rw [mF_StepMachineModel_opcodeOf, if_neg c_1, if_neg c_9, if_neg c_17, if_neg c_25, if_neg c_34], ht⟩) (fun q h => by cases h) d_M_opcodeOf_39
        · skip
          refine lv_bipush (v := 103) hx hb d_M_opcodeOf_28 (by decide) ?_
          exact W.iret (v := 103) hx hb hr (fun t ht hW => ⟨_, rfl, by rw [mF_StepMachineModel_opcodeOf, if_neg c_1, if_neg c_9, if_neg c_17, if_pos c_25], ht⟩) (fun q h => by cases h) d_M_opcodeOf_30
      · skip
        refine lv_bipush (v := 111) hx hb d_M_opcodeOf_20 (by decide) ?_
        exact W.iret (v := 111) hx hb hr (fun t ht hW => ⟨_, rfl, by rw [mF_StepMachineModel_opcodeOf, if_neg c_1, if_neg c_9, if_pos c_17], ht⟩) (fun q h => by cases h) d_M_opcodeOf_22
    · skip
      refine lv_bipush (v := 23) hx hb d_M_opcodeOf_12 (by decide) ?_
      exact W.iret (v := 23) hx hb hr (fun t ht hW => ⟨_, rfl, by rw [mF_StepMachineModel_opcodeOf, if_neg c_1, if_pos c_9], ht⟩) (fun q h => by cases h) d_M_opcodeOf_14
  · skip
    refine lv_bipush (v := 55) hx hb d_M_opcodeOf_4 (by decide) ?_
    exact W.iret (v := 55) hx hb hr (fun t ht hW => ⟨_, rfl, by rw [mF_StepMachineModel_opcodeOf, if_pos c_1], ht⟩) (fun q h => by cases h) d_M_opcodeOf_6
def mF_StepMachineModel_thirdOf (x0 : Int32) : Int32 := (if x0 = 5 then 1 else (if x0 = 6 then 4 else (if x0 = 7 then 5 else (if x0 = 8 then 6 else (if x0 = 9 then 7 else (if x0 = 10 then 0 else (if x0 = 11 then 1 else (if x0 = 12 then 2 else (if x0 = 13 then 4 else (if x0 = 14 then 5 else (if x0 = 15 then 0 else (if x0 = 16 then 1 else (if x0 = 17 then 2 else (if x0 = 18 then 0 else (if x0 = 19 then 2 else (if x0 = 20 then 3 else (if x0 = 21 then 4 else (if x0 = 22 then 6 else (if x0 = 23 then 7 else (if x0 = 24 then 1 else (if x0 = 25 then 5 else (if x0 = 26 then 5 else (if x0 = 27 then 0 else (if x0 = 28 then 0 else (if x0 = 29 then 1 else (if x0 = 30 then 2 else (if x0 = 31 then 3 else (if x0 = 32 then 4 else (if x0 = 33 then 5 else (if x0 = 34 then 5 else (if x0 = 35 then 6 else (if x0 = 36 then 7 else (if x0 = 37 then 0 else (if x0 = 38 then 1 else (if x0 = 39 then 2 else (if x0 = 40 then 3 else (if x0 = 41 then 4 else (if x0 = 42 then 5 else (if x0 = 43 then 6 else (if x0 = 44 then 7 else 0))))))))))))))))))))))))))))))))))))))))
set_option maxHeartbeats 4000000 in
set_option maxRecDepth 100000 in
theorem mc_StepMachineModel_thirdOf (l : Launch) (D : va_G) (tc : Nat → ClassId) (tb : Nat → Nat) (z0 : Nat) (x0 : Int32) : Met l y_M_thirdOf (wM y_M_thirdOf b_M_thirdOf 1 (some .int)) ({ frames := 0, cells := 0, slots := 0, locals := 0 }) (va_Pc [.int x0] (Pr D tc tb z0 [])) (vp_Si (fun r => r = (mF_StepMachineModel_thirdOf x0))) 0 0 (fun _ => False) := by
  refine Met.ofW (cc := b_M_thirdOf) (maxL := 1) (ret := (some .int)) (by decide) rfl ?_
  intro p e s m args below meth c s₁ B hml hv
  obtain ⟨rfl, hP, hK, hB⟩ := hv
  have hx := B.exec
  have hb := B.bytes
  have hr := B.returns
  have hts : ∀ w ∈ wALL, w.before _ s = true := fun w h => atoms_spec (ws := (wM y_M_thirdOf b_M_thirdOf 1 (some .int))) B.pre w (List.mem_cons_of_mem _ h)
  have hown : s.vm.findClass "StepMachineModel" = some m.cls := findClass_of_methodNamed B.named
  have hlocks := B.notSynchronized
  have hl := lv_entry ([.int x0]) (n := 1) (Nat.le_of_ble_eq_true rfl)
  rw [lg_entry_eq]
  generalize (lg_sl ([.int x0]) ++ List.replicate (1 - (lg_sl ([.int x0])).length) Slot.unset).toArray = ls at hl ⊢
  have hl : lv_has ls 1 [(0, .int x0)] := hl
  refine lv_iload_n hx hb d_M_thirdOf_0 rfl (lv_at hl 0 rfl) ?_
  by_cases c_1_0 : x0 = 5
  · skip
    refine lv_tableIn (tgt := 176) hx hb d_M_thirdOf_1 (by rw [c_1_0]; decide) (by rw [c_1_0]; decide) (by rw [c_1_0] <;> rfl) (by decide) ?_
    refine lv_iconst (v := 1) hx hb d_M_thirdOf_176 (by decide) ?_
    exact W.iret (v := 1) hx hb hr (fun t ht hW => ⟨_, rfl, by rw [mF_StepMachineModel_thirdOf, if_pos c_1_0], ht⟩) (fun q h => by cases h) d_M_thirdOf_177
  · skip
    by_cases c_1_1 : x0 = 6
    · skip
      refine lv_tableIn (tgt := 182) hx hb d_M_thirdOf_1 (by rw [c_1_1]; decide) (by rw [c_1_1]; decide) (by rw [c_1_1] <;> rfl) (by decide) ?_
      refine lv_iconst (v := 4) hx hb d_M_thirdOf_182 (by decide) ?_
      exact W.iret (v := 4) hx hb hr (fun t ht hW => ⟨_, rfl, by rw [mF_StepMachineModel_thirdOf, if_neg c_1_0, if_pos c_1_1], ht⟩) (fun q h => by cases h) d_M_thirdOf_183
    · skip
      by_cases c_1_2 : x0 = 7
      · skip
        refine lv_tableIn (tgt := 184) hx hb d_M_thirdOf_1 (by rw [c_1_2]; decide) (by rw [c_1_2]; decide) (by rw [c_1_2] <;> rfl) (by decide) ?_
        refine lv_iconst (v := 5) hx hb d_M_thirdOf_184 (by decide) ?_
        exact W.iret (v := 5) hx hb hr (fun t ht hW => ⟨_, rfl, by rw [mF_StepMachineModel_thirdOf, if_neg c_1_0, if_neg c_1_1, if_pos c_1_2], ht⟩) (fun q h => by cases h) d_M_thirdOf_185
      · skip
        by_cases c_1_3 : x0 = 8
        · skip
          refine lv_tableIn (tgt := 186) hx hb d_M_thirdOf_1 (by rw [c_1_3]; decide) (by rw [c_1_3]; decide) (by rw [c_1_3] <;> rfl) (by decide) ?_
          refine lv_bipush (v := 6) hx hb d_M_thirdOf_186 (by decide) ?_
          exact W.iret (v := 6) hx hb hr (fun t ht hW => ⟨_, rfl, by rw [mF_StepMachineModel_thirdOf, if_neg c_1_0, if_neg c_1_1, if_neg c_1_2, if_pos c_1_3], ht⟩) (fun q h => by cases h) d_M_thirdOf_188
        · skip
          by_cases c_1_4 : x0 = 9
          · skip
            refine lv_tableIn (tgt := 189) hx hb d_M_thirdOf_1 (by rw [c_1_4]; decide) (by rw [c_1_4]; decide) (by rw [c_1_4] <;> rfl) (by decide) ?_
            refine lv_bipush (v := 7) hx hb d_M_thirdOf_189 (by decide) ?_
            exact W.iret (v := 7) hx hb hr (fun t ht hW => ⟨_, rfl, by rw [mF_StepMachineModel_thirdOf, if_neg c_1_0, if_neg c_1_1, if_neg c_1_2, if_neg c_1_3, if_pos c_1_4], ht⟩) (fun q h => by cases h) d_M_thirdOf_191
          · skip
            by_cases c_1_5 : x0 = 10
            · skip
              refine lv_tableIn (tgt := 192) hx hb d_M_thirdOf_1 (by rw [c_1_5]; decide) (by rw [c_1_5]; decide) (by rw [c_1_5] <;> rfl) (by decide) ?_
              refine lv_iconst (v := 0) hx hb d_M_thirdOf_192 (by decide) ?_
              exact W.iret (v := 0) hx hb hr (fun t ht hW => ⟨_, rfl, by rw [mF_StepMachineModel_thirdOf, if_neg c_1_0, if_neg c_1_1, if_neg c_1_2, if_neg c_1_3, if_neg c_1_4, if_pos c_1_5], ht⟩) (fun q h => by cases h) d_M_thirdOf_193
            · skip
              by_cases c_1_6 : x0 = 11
              · skip
                refine lv_tableIn (tgt := 176) hx hb d_M_thirdOf_1 (by rw [c_1_6]; decide) (by rw [c_1_6]; decide) (by rw [c_1_6] <;> rfl) (by decide) ?_
                refine lv_iconst (v := 1) hx hb d_M_thirdOf_176 (by decide) ?_
                exact W.iret (v := 1) hx hb hr (fun t ht hW => ⟨_, rfl, by rw [mF_StepMachineModel_thirdOf, if_neg c_1_0, if_neg c_1_1, if_neg c_1_2, if_neg c_1_3, if_neg c_1_4, if_neg c_1_5, if_pos c_1_6], ht⟩) (fun q h => by cases h) d_M_thirdOf_177
              · skip
                by_cases c_1_7 : x0 = 12
                · skip
                  refine lv_tableIn (tgt := 178) hx hb d_M_thirdOf_1 (by rw [c_1_7]; decide) (by rw [c_1_7]; decide) (by rw [c_1_7] <;> rfl) (by decide) ?_
                  refine lv_iconst (v := 2) hx hb d_M_thirdOf_178 (by decide) ?_
                  exact W.iret (v := 2) hx hb hr (fun t ht hW => ⟨_, rfl, by rw [mF_StepMachineModel_thirdOf, if_neg c_1_0, if_neg c_1_1, if_neg c_1_2, if_neg c_1_3, if_neg c_1_4, if_neg c_1_5, if_neg c_1_6, if_pos c_1_7], ht⟩) (fun q h => by cases h) d_M_thirdOf_179
                · skip
                  by_cases c_1_8 : x0 = 13
                  · skip
                    refine lv_tableIn (tgt := 182) hx hb d_M_thirdOf_1 (by rw [c_1_8]; decide) (by rw [c_1_8]; decide) (by rw [c_1_8] <;> rfl) (by decide) ?_
                    refine lv_iconst (v := 4) hx hb d_M_thirdOf_182 (by decide) ?_
                    exact W.iret (v := 4) hx hb hr (fun t ht hW => ⟨_, rfl, by rw [mF_StepMachineModel_thirdOf, if_neg c_1_0, if_neg c_1_1, if_neg c_1_2, if_neg c_1_3, if_neg c_1_4, if_neg c_1_5, if_neg c_1_6, if_neg c_1_7, if_pos c_1_8], ht⟩) (fun q h => by cases h) d_M_thirdOf_183
                  · skip
                    by_cases c_1_9 : x0 = 14
                    · skip
                      refine lv_tableIn (tgt := 184) hx hb d_M_thirdOf_1 (by rw [c_1_9]; decide) (by rw [c_1_9]; decide) (by rw [c_1_9] <;> rfl) (by decide) ?_
                      refine lv_iconst (v := 5) hx hb d_M_thirdOf_184 (by decide) ?_
                      exact W.iret (v := 5) hx hb hr (fun t ht hW => ⟨_, rfl, by rw [mF_StepMachineModel_thirdOf, if_neg c_1_0, if_neg c_1_1, if_neg c_1_2, if_neg c_1_3, if_neg c_1_4, if_neg c_1_5, if_neg c_1_6, if_neg c_1_7, if_neg c_1_8, if_pos c_1_9], ht⟩) (fun q h => by cases h) d_M_thirdOf_185
                    · skip
                      by_cases c_1_10 : x0 = 15
                      · skip
                        refine lv_tableIn (tgt := 192) hx hb d_M_thirdOf_1 (by rw [c_1_10]; decide) (by rw [c_1_10]; decide) (by rw [c_1_10] <;> rfl) (by decide) ?_
                        refine lv_iconst (v := 0) hx hb d_M_thirdOf_192 (by decide) ?_
                        exact W.iret (v := 0) hx hb hr (fun t ht hW => ⟨_, rfl, by rw [mF_StepMachineModel_thirdOf, if_neg c_1_0, if_neg c_1_1, if_neg c_1_2, if_neg c_1_3, if_neg c_1_4, if_neg c_1_5, if_neg c_1_6, if_neg c_1_7, if_neg c_1_8, if_neg c_1_9, if_pos c_1_10], ht⟩) (fun q h => by cases h) d_M_thirdOf_193
                      · skip
                        by_cases c_1_11 : x0 = 16
                        · skip
                          refine lv_tableIn (tgt := 176) hx hb d_M_thirdOf_1 (by rw [c_1_11]; decide) (by rw [c_1_11]; decide) (by rw [c_1_11] <;> rfl) (by decide) ?_
                          refine lv_iconst (v := 1) hx hb d_M_thirdOf_176 (by decide) ?_
                          exact W.iret (v := 1) hx hb hr (fun t ht hW => ⟨_, rfl, by rw [mF_StepMachineModel_thirdOf, if_neg c_1_0, if_neg c_1_1, if_neg c_1_2, if_neg c_1_3, if_neg c_1_4, if_neg c_1_5, if_neg c_1_6, if_neg c_1_7, if_neg c_1_8, if_neg c_1_9, if_neg c_1_10, if_pos c_1_11], ht⟩) (fun q h => by cases h) d_M_thirdOf_177
                        · skip
                          by_cases c_1_12 : x0 = 17
                          · skip
                            refine lv_tableIn (tgt := 178) hx hb d_M_thirdOf_1 (by rw [c_1_12]; decide) (by rw [c_1_12]; decide) (by rw [c_1_12] <;> rfl) (by decide) ?_
                            refine lv_iconst (v := 2) hx hb d_M_thirdOf_178 (by decide) ?_
                            exact W.iret (v := 2) hx hb hr (fun t ht hW => ⟨_, rfl, by rw [mF_StepMachineModel_thirdOf, if_neg c_1_0, if_neg c_1_1, if_neg c_1_2, if_neg c_1_3, if_neg c_1_4, if_neg c_1_5, if_neg c_1_6, if_neg c_1_7, if_neg c_1_8, if_neg c_1_9, if_neg c_1_10, if_neg c_1_11, if_pos c_1_12], ht⟩) (fun q h => by cases h) d_M_thirdOf_179
                          · skip
                            by_cases c_1_13 : x0 = 18
                            · skip
                              refine lv_tableIn (tgt := 192) hx hb d_M_thirdOf_1 (by rw [c_1_13]; decide) (by rw [c_1_13]; decide) (by rw [c_1_13] <;> rfl) (by decide) ?_
                              refine lv_iconst (v := 0) hx hb d_M_thirdOf_192 (by decide) ?_
                              exact W.iret (v := 0) hx hb hr (fun t ht hW => ⟨_, rfl, by rw [mF_StepMachineModel_thirdOf, if_neg c_1_0, if_neg c_1_1, if_neg c_1_2, if_neg c_1_3, if_neg c_1_4, if_neg c_1_5, if_neg c_1_6, if_neg c_1_7, if_neg c_1_8, if_neg c_1_9, if_neg c_1_10, if_neg c_1_11, if_neg c_1_12, if_pos c_1_13], ht⟩) (fun q h => by cases h) d_M_thirdOf_193
                            · skip
                              by_cases c_1_14 : x0 = 19
                              · skip
                                refine lv_tableIn (tgt := 178) hx hb d_M_thirdOf_1 (by rw [c_1_14]; decide) (by rw [c_1_14]; decide) (by rw [c_1_14] <;> rfl) (by decide) ?_
                                refine lv_iconst (v := 2) hx hb d_M_thirdOf_178 (by decide) ?_
                                exact W.iret (v := 2) hx hb hr (fun t ht hW => ⟨_, rfl, by rw [mF_StepMachineModel_thirdOf, if_neg c_1_0, if_neg c_1_1, if_neg c_1_2, if_neg c_1_3, if_neg c_1_4, if_neg c_1_5, if_neg c_1_6, if_neg c_1_7, if_neg c_1_8, if_neg c_1_9, if_neg c_1_10, if_neg c_1_11, if_neg c_1_12, if_neg c_1_13, if_pos c_1_14], ht⟩) (fun q h => by cases h) d_M_thirdOf_179
                              · skip
                                by_cases c_1_15 : x0 = 20
                                · skip
                                  refine lv_tableIn (tgt := 180) hx hb d_M_thirdOf_1 (by rw [c_1_15]; decide) (by rw [c_1_15]; decide) (by rw [c_1_15] <;> rfl) (by decide) ?_
                                  refine lv_iconst (v := 3) hx hb d_M_thirdOf_180 (by decide) ?_
                                  exact W.iret (v := 3) hx hb hr (fun t ht hW => ⟨_, rfl, by rw [mF_StepMachineModel_thirdOf, if_neg c_1_0, if_neg c_1_1, if_neg c_1_2, if_neg c_1_3, if_neg c_1_4, if_neg c_1_5, if_neg c_1_6, if_neg c_1_7, if_neg c_1_8, if_neg c_1_9, if_neg c_1_10, if_neg c_1_11, if_neg c_1_12, if_neg c_1_13, if_neg c_1_14, if_pos c_1_15], ht⟩) (fun q h => by cases h) d_M_thirdOf_181
                                · skip
                                  by_cases c_1_16 : x0 = 21
                                  · skip
                                    refine lv_tableIn (tgt := 182) hx hb d_M_thirdOf_1 (by rw [c_1_16]; decide) (by rw [c_1_16]; decide) (by rw [c_1_16] <;> rfl) (by decide) ?_
                                    refine lv_iconst (v := 4) hx hb d_M_thirdOf_182 (by decide) ?_
                                    exact W.iret (v := 4) hx hb hr (fun t ht hW => ⟨_, rfl, by rw [mF_StepMachineModel_thirdOf, if_neg c_1_0, if_neg c_1_1, if_neg c_1_2, if_neg c_1_3, if_neg c_1_4, if_neg c_1_5, if_neg c_1_6, if_neg c_1_7, if_neg c_1_8, if_neg c_1_9, if_neg c_1_10, if_neg c_1_11, if_neg c_1_12, if_neg c_1_13, if_neg c_1_14, if_neg c_1_15, if_pos c_1_16], ht⟩) (fun q h => by cases h) d_M_thirdOf_183
                                  · skip
                                    by_cases c_1_17 : x0 = 22
                                    · skip
                                      refine lv_tableIn (tgt := 186) hx hb d_M_thirdOf_1 (by rw [c_1_17]; decide) (by rw [c_1_17]; decide) (by rw [c_1_17] <;> rfl) (by decide) ?_
                                      refine lv_bipush (v := 6) hx hb d_M_thirdOf_186 (by decide) ?_
                                      exact W.iret (v := 6) hx hb hr (fun t ht hW => ⟨_, rfl, by rw [mF_StepMachineModel_thirdOf, if_neg c_1_0, if_neg c_1_1, if_neg c_1_2, if_neg c_1_3, if_neg c_1_4, if_neg c_1_5, if_neg c_1_6, if_neg c_1_7, if_neg c_1_8, if_neg c_1_9, if_neg c_1_10, if_neg c_1_11, if_neg c_1_12, if_neg c_1_13, if_neg c_1_14, if_neg c_1_15, if_neg c_1_16, if_pos c_1_17], ht⟩) (fun q h => by cases h) d_M_thirdOf_188
                                    · skip
                                      by_cases c_1_18 : x0 = 23
                                      · skip
                                        refine lv_tableIn (tgt := 189) hx hb d_M_thirdOf_1 (by rw [c_1_18]; decide) (by rw [c_1_18]; decide) (by rw [c_1_18] <;> rfl) (by decide) ?_
                                        refine lv_bipush (v := 7) hx hb d_M_thirdOf_189 (by decide) ?_
                                        exact W.iret (v := 7) hx hb hr (fun t ht hW => ⟨_, rfl, by rw [mF_StepMachineModel_thirdOf, if_neg c_1_0, if_neg c_1_1, if_neg c_1_2, if_neg c_1_3, if_neg c_1_4, if_neg c_1_5, if_neg c_1_6, if_neg c_1_7, if_neg c_1_8, if_neg c_1_9, if_neg c_1_10, if_neg c_1_11, if_neg c_1_12, if_neg c_1_13, if_neg c_1_14, if_neg c_1_15, if_neg c_1_16, if_neg c_1_17, if_pos c_1_18], ht⟩) (fun q h => by cases h) d_M_thirdOf_191
                                      · skip
                                        by_cases c_1_19 : x0 = 24
                                        · skip
                                          refine lv_tableIn (tgt := 176) hx hb d_M_thirdOf_1 (by rw [c_1_19]; decide) (by rw [c_1_19]; decide) (by rw [c_1_19] <;> rfl) (by decide) ?_
                                          refine lv_iconst (v := 1) hx hb d_M_thirdOf_176 (by decide) ?_
                                          exact W.iret (v := 1) hx hb hr (fun t ht hW => ⟨_, rfl, by rw [mF_StepMachineModel_thirdOf, if_neg c_1_0, if_neg c_1_1, if_neg c_1_2, if_neg c_1_3, if_neg c_1_4, if_neg c_1_5, if_neg c_1_6, if_neg c_1_7, if_neg c_1_8, if_neg c_1_9, if_neg c_1_10, if_neg c_1_11, if_neg c_1_12, if_neg c_1_13, if_neg c_1_14, if_neg c_1_15, if_neg c_1_16, if_neg c_1_17, if_neg c_1_18, if_pos c_1_19], ht⟩) (fun q h => by cases h) d_M_thirdOf_177
                                        · skip
                                          by_cases c_1_20 : x0 = 25
                                          · skip
                                            refine lv_tableIn (tgt := 184) hx hb d_M_thirdOf_1 (by rw [c_1_20]; decide) (by rw [c_1_20]; decide) (by rw [c_1_20] <;> rfl) (by decide) ?_
                                            refine lv_iconst (v := 5) hx hb d_M_thirdOf_184 (by decide) ?_
                                            exact W.iret (v := 5) hx hb hr (fun t ht hW => ⟨_, rfl, by rw [mF_StepMachineModel_thirdOf, if_neg c_1_0, if_neg c_1_1, if_neg c_1_2, if_neg c_1_3, if_neg c_1_4, if_neg c_1_5, if_neg c_1_6, if_neg c_1_7, if_neg c_1_8, if_neg c_1_9, if_neg c_1_10, if_neg c_1_11, if_neg c_1_12, if_neg c_1_13, if_neg c_1_14, if_neg c_1_15, if_neg c_1_16, if_neg c_1_17, if_neg c_1_18, if_neg c_1_19, if_pos c_1_20], ht⟩) (fun q h => by cases h) d_M_thirdOf_185
                                          · skip
                                            by_cases c_1_21 : x0 = 26
                                            · skip
                                              refine lv_tableIn (tgt := 184) hx hb d_M_thirdOf_1 (by rw [c_1_21]; decide) (by rw [c_1_21]; decide) (by rw [c_1_21] <;> rfl) (by decide) ?_
                                              refine lv_iconst (v := 5) hx hb d_M_thirdOf_184 (by decide) ?_
                                              exact W.iret (v := 5) hx hb hr (fun t ht hW => ⟨_, rfl, by rw [mF_StepMachineModel_thirdOf, if_neg c_1_0, if_neg c_1_1, if_neg c_1_2, if_neg c_1_3, if_neg c_1_4, if_neg c_1_5, if_neg c_1_6, if_neg c_1_7, if_neg c_1_8, if_neg c_1_9, if_neg c_1_10, if_neg c_1_11, if_neg c_1_12, if_neg c_1_13, if_neg c_1_14, if_neg c_1_15, if_neg c_1_16, if_neg c_1_17, if_neg c_1_18, if_neg c_1_19, if_neg c_1_20, if_pos c_1_21], ht⟩) (fun q h => by cases h) d_M_thirdOf_185
                                            · skip
                                              by_cases c_1_22 : x0 = 27
                                              · skip
                                                refine lv_tableIn (tgt := 192) hx hb d_M_thirdOf_1 (by rw [c_1_22]; decide) (by rw [c_1_22]; decide) (by rw [c_1_22] <;> rfl) (by decide) ?_
                                                refine lv_iconst (v := 0) hx hb d_M_thirdOf_192 (by decide) ?_
                                                exact W.iret (v := 0) hx hb hr (fun t ht hW => ⟨_, rfl, by rw [mF_StepMachineModel_thirdOf, if_neg c_1_0, if_neg c_1_1, if_neg c_1_2, if_neg c_1_3, if_neg c_1_4, if_neg c_1_5, if_neg c_1_6, if_neg c_1_7, if_neg c_1_8, if_neg c_1_9, if_neg c_1_10, if_neg c_1_11, if_neg c_1_12, if_neg c_1_13, if_neg c_1_14, if_neg c_1_15, if_neg c_1_16, if_neg c_1_17, if_neg c_1_18, if_neg c_1_19, if_neg c_1_20, if_neg c_1_21, if_pos c_1_22], ht⟩) (fun q h => by cases h) d_M_thirdOf_193
                                              · skip
                                                by_cases c_1_23 : x0 = 28
                                                · skip
                                                  refine lv_tableIn (tgt := 192) hx hb d_M_thirdOf_1 (by rw [c_1_23]; decide) (by rw [c_1_23]; decide) (by rw [c_1_23] <;> rfl) (by decide) ?_
                                                  refine lv_iconst (v := 0) hx hb d_M_thirdOf_192 (by decide) ?_
                                                  exact W.iret (v := 0) hx hb hr (fun t ht hW => ⟨_, rfl, by rw [mF_StepMachineModel_thirdOf, if_neg c_1_0, if_neg c_1_1, if_neg c_1_2, if_neg c_1_3, if_neg c_1_4, if_neg c_1_5, if_neg c_1_6, if_neg c_1_7, if_neg c_1_8, if_neg c_1_9, if_neg c_1_10, if_neg c_1_11, if_neg c_1_12, if_neg c_1_13, if_neg c_1_14, if_neg c_1_15, if_neg c_1_16, if_neg c_1_17, if_neg c_1_18, if_neg c_1_19, if_neg c_1_20, if_neg c_1_21, if_neg c_1_22, if_pos c_1_23], ht⟩) (fun q h => by cases h) d_M_thirdOf_193
                                                · skip
                                                  by_cases c_1_24 : x0 = 29
                                                  · skip
                                                    refine lv_tableIn (tgt := 176) hx hb d_M_thirdOf_1 (by rw [c_1_24]; decide) (by rw [c_1_24]; decide) (by rw [c_1_24] <;> rfl) (by decide) ?_
                                                    refine lv_iconst (v := 1) hx hb d_M_thirdOf_176 (by decide) ?_
                                                    exact W.iret (v := 1) hx hb hr (fun t ht hW => ⟨_, rfl, by rw [mF_StepMachineModel_thirdOf, if_neg c_1_0, if_neg c_1_1, if_neg c_1_2, if_neg c_1_3, if_neg c_1_4, if_neg c_1_5, if_neg c_1_6, if_neg c_1_7, if_neg c_1_8, if_neg c_1_9, if_neg c_1_10, if_neg c_1_11, if_neg c_1_12, if_neg c_1_13, if_neg c_1_14, if_neg c_1_15, if_neg c_1_16, if_neg c_1_17, if_neg c_1_18, if_neg c_1_19, if_neg c_1_20, if_neg c_1_21, if_neg c_1_22, if_neg c_1_23, if_pos c_1_24], ht⟩) (fun q h => by cases h) d_M_thirdOf_177
                                                  · skip
                                                    by_cases c_1_25 : x0 = 30
                                                    · skip
                                                      refine lv_tableIn (tgt := 178) hx hb d_M_thirdOf_1 (by rw [c_1_25]; decide) (by rw [c_1_25]; decide) (by rw [c_1_25] <;> rfl) (by decide) ?_
                                                      refine lv_iconst (v := 2) hx hb d_M_thirdOf_178 (by decide) ?_
                                                      exact W.iret (v := 2) hx hb hr (fun t ht hW => ⟨_, rfl, by rw [mF_StepMachineModel_thirdOf, if_neg c_1_0, if_neg c_1_1, if_neg c_1_2, if_neg c_1_3, if_neg c_1_4, if_neg c_1_5, if_neg c_1_6, if_neg c_1_7, if_neg c_1_8, if_neg c_1_9, if_neg c_1_10, if_neg c_1_11, if_neg c_1_12, if_neg c_1_13, if_neg c_1_14, if_neg c_1_15, if_neg c_1_16, if_neg c_1_17, if_neg c_1_18, if_neg c_1_19, if_neg c_1_20, if_neg c_1_21, if_neg c_1_22, if_neg c_1_23, if_neg c_1_24, if_pos c_1_25], ht⟩) (fun q h => by cases h) d_M_thirdOf_179
                                                    · skip
                                                      by_cases c_1_26 : x0 = 31
                                                      · skip
                                                        refine lv_tableIn (tgt := 180) hx hb d_M_thirdOf_1 (by rw [c_1_26]; decide) (by rw [c_1_26]; decide) (by rw [c_1_26] <;> rfl) (by decide) ?_
                                                        refine lv_iconst (v := 3) hx hb d_M_thirdOf_180 (by decide) ?_
                                                        exact W.iret (v := 3) hx hb hr (fun t ht hW => ⟨_, rfl, by rw [mF_StepMachineModel_thirdOf, if_neg c_1_0, if_neg c_1_1, if_neg c_1_2, if_neg c_1_3, if_neg c_1_4, if_neg c_1_5, if_neg c_1_6, if_neg c_1_7, if_neg c_1_8, if_neg c_1_9, if_neg c_1_10, if_neg c_1_11, if_neg c_1_12, if_neg c_1_13, if_neg c_1_14, if_neg c_1_15, if_neg c_1_16, if_neg c_1_17, if_neg c_1_18, if_neg c_1_19, if_neg c_1_20, if_neg c_1_21, if_neg c_1_22, if_neg c_1_23, if_neg c_1_24, if_neg c_1_25, if_pos c_1_26], ht⟩) (fun q h => by cases h) d_M_thirdOf_181
                                                      · skip
                                                        by_cases c_1_27 : x0 = 32
                                                        · skip
                                                          refine lv_tableIn (tgt := 182) hx hb d_M_thirdOf_1 (by rw [c_1_27]; decide) (by rw [c_1_27]; decide) (by rw [c_1_27] <;> rfl) (by decide) ?_
                                                          refine lv_iconst (v := 4) hx hb d_M_thirdOf_182 (by decide) ?_
                                                          exact W.iret (v := 4) hx hb hr (fun t ht hW => ⟨_, rfl, by rw [mF_StepMachineModel_thirdOf, if_neg c_1_0, if_neg c_1_1, if_neg c_1_2, if_neg c_1_3, if_neg c_1_4, if_neg c_1_5, if_neg c_1_6, if_neg c_1_7, if_neg c_1_8, if_neg c_1_9, if_neg c_1_10, if_neg c_1_11, if_neg c_1_12, if_neg c_1_13, if_neg c_1_14, if_neg c_1_15, if_neg c_1_16, if_neg c_1_17, if_neg c_1_18, if_neg c_1_19, if_neg c_1_20, if_neg c_1_21, if_neg c_1_22, if_neg c_1_23, if_neg c_1_24, if_neg c_1_25, if_neg c_1_26, if_pos c_1_27], ht⟩) (fun q h => by cases h) d_M_thirdOf_183
                                                        · skip
                                                          by_cases c_1_28 : x0 = 33
                                                          · skip
                                                            refine lv_tableIn (tgt := 184) hx hb d_M_thirdOf_1 (by rw [c_1_28]; decide) (by rw [c_1_28]; decide) (by rw [c_1_28] <;> rfl) (by decide) ?_
                                                            refine lv_iconst (v := 5) hx hb d_M_thirdOf_184 (by decide) ?_
                                                            exact W.iret (v := 5) hx hb hr (fun t ht hW => ⟨_, rfl, by rw [mF_StepMachineModel_thirdOf, if_neg c_1_0, if_neg c_1_1, if_neg c_1_2, if_neg c_1_3, if_neg c_1_4, if_neg c_1_5, if_neg c_1_6, if_neg c_1_7, if_neg c_1_8, if_neg c_1_9, if_neg c_1_10, if_neg c_1_11, if_neg c_1_12, if_neg c_1_13, if_neg c_1_14, if_neg c_1_15, if_neg c_1_16, if_neg c_1_17, if_neg c_1_18, if_neg c_1_19, if_neg c_1_20, if_neg c_1_21, if_neg c_1_22, if_neg c_1_23, if_neg c_1_24, if_neg c_1_25, if_neg c_1_26, if_neg c_1_27, if_pos c_1_28], ht⟩) (fun q h => by cases h) d_M_thirdOf_185
                                                          · skip
                                                            by_cases c_1_29 : x0 = 34
                                                            · skip
                                                              refine lv_tableIn (tgt := 184) hx hb d_M_thirdOf_1 (by rw [c_1_29]; decide) (by rw [c_1_29]; decide) (by rw [c_1_29] <;> rfl) (by decide) ?_
                                                              refine lv_iconst (v := 5) hx hb d_M_thirdOf_184 (by decide) ?_
                                                              exact W.iret (v := 5) hx hb hr (fun t ht hW => ⟨_, rfl, by rw [mF_StepMachineModel_thirdOf, if_neg c_1_0, if_neg c_1_1, if_neg c_1_2, if_neg c_1_3, if_neg c_1_4, if_neg c_1_5, if_neg c_1_6, if_neg c_1_7, if_neg c_1_8, if_neg c_1_9, if_neg c_1_10, if_neg c_1_11, if_neg c_1_12, if_neg c_1_13, if_neg c_1_14, if_neg c_1_15, if_neg c_1_16, if_neg c_1_17, if_neg c_1_18, if_neg c_1_19, if_neg c_1_20, if_neg c_1_21, if_neg c_1_22, if_neg c_1_23, if_neg c_1_24, if_neg c_1_25, if_neg c_1_26, if_neg c_1_27, if_neg c_1_28, if_pos c_1_29], ht⟩) (fun q h => by cases h) d_M_thirdOf_185
                                                            · skip
                                                              by_cases c_1_30 : x0 = 35
                                                              · skip
                                                                refine lv_tableIn (tgt := 186) hx hb d_M_thirdOf_1 (by rw [c_1_30]; decide) (by rw [c_1_30]; decide) (by rw [c_1_30] <;> rfl) (by decide) ?_
                                                                refine lv_bipush (v := 6) hx hb d_M_thirdOf_186 (by decide) ?_
                                                                exact W.iret (v := 6) hx hb hr (fun t ht hW => ⟨_, rfl, by rw [mF_StepMachineModel_thirdOf, if_neg c_1_0, if_neg c_1_1, if_neg c_1_2, if_neg c_1_3, if_neg c_1_4, if_neg c_1_5, if_neg c_1_6, if_neg c_1_7, if_neg c_1_8, if_neg c_1_9, if_neg c_1_10, if_neg c_1_11, if_neg c_1_12, if_neg c_1_13, if_neg c_1_14, if_neg c_1_15, if_neg c_1_16, if_neg c_1_17, if_neg c_1_18, if_neg c_1_19, if_neg c_1_20, if_neg c_1_21, if_neg c_1_22, if_neg c_1_23, if_neg c_1_24, if_neg c_1_25, if_neg c_1_26, if_neg c_1_27, if_neg c_1_28, if_neg c_1_29, if_pos c_1_30], ht⟩) (fun q h => by cases h) d_M_thirdOf_188
                                                              · skip
                                                                by_cases c_1_31 : x0 = 36
                                                                · skip
                                                                  refine lv_tableIn (tgt := 189) hx hb d_M_thirdOf_1 (by rw [c_1_31]; decide) (by rw [c_1_31]; decide) (by rw [c_1_31] <;> rfl) (by decide) ?_
                                                                  refine lv_bipush (v := 7) hx hb d_M_thirdOf_189 (by decide) ?_
                                                                  exact W.iret (v := 7) hx hb hr (fun t ht hW => ⟨_, rfl, by rw [mF_StepMachineModel_thirdOf, if_neg c_1_0, if_neg c_1_1, if_neg c_1_2, if_neg c_1_3, if_neg c_1_4, if_neg c_1_5, if_neg c_1_6, if_neg c_1_7, if_neg c_1_8, if_neg c_1_9, if_neg c_1_10, if_neg c_1_11, if_neg c_1_12, if_neg c_1_13, if_neg c_1_14, if_neg c_1_15, if_neg c_1_16, if_neg c_1_17, if_neg c_1_18, if_neg c_1_19, if_neg c_1_20, if_neg c_1_21, if_neg c_1_22, if_neg c_1_23, if_neg c_1_24, if_neg c_1_25, if_neg c_1_26, if_neg c_1_27, if_neg c_1_28, if_neg c_1_29, if_neg c_1_30, if_pos c_1_31], ht⟩) (fun q h => by cases h) d_M_thirdOf_191
                                                                · skip
                                                                  by_cases c_1_32 : x0 = 37
                                                                  · skip
                                                                    refine lv_tableIn (tgt := 192) hx hb d_M_thirdOf_1 (by rw [c_1_32]; decide) (by rw [c_1_32]; decide) (by rw [c_1_32] <;> rfl) (by decide) ?_
                                                                    refine lv_iconst (v := 0) hx hb d_M_thirdOf_192 (by decide) ?_
                                                                    exact W.iret (v := 0) hx hb hr (fun t ht hW => ⟨_, rfl, by rw [mF_StepMachineModel_thirdOf, if_neg c_1_0, if_neg c_1_1, if_neg c_1_2, if_neg c_1_3, if_neg c_1_4, if_neg c_1_5, if_neg c_1_6, if_neg c_1_7, if_neg c_1_8, if_neg c_1_9, if_neg c_1_10, if_neg c_1_11, if_neg c_1_12, if_neg c_1_13, if_neg c_1_14, if_neg c_1_15, if_neg c_1_16, if_neg c_1_17, if_neg c_1_18, if_neg c_1_19, if_neg c_1_20, if_neg c_1_21, if_neg c_1_22, if_neg c_1_23, if_neg c_1_24, if_neg c_1_25, if_neg c_1_26, if_neg c_1_27, if_neg c_1_28, if_neg c_1_29, if_neg c_1_30, if_neg c_1_31, if_pos c_1_32], ht⟩) (fun q h => by cases h) d_M_thirdOf_193
                                                                  · skip
                                                                    by_cases c_1_33 : x0 = 38
                                                                    · skip
                                                                      refine lv_tableIn (tgt := 176) hx hb d_M_thirdOf_1 (by rw [c_1_33]; decide) (by rw [c_1_33]; decide) (by rw [c_1_33] <;> rfl) (by decide) ?_
                                                                      refine lv_iconst (v := 1) hx hb d_M_thirdOf_176 (by decide) ?_
                                                                      exact W.iret (v := 1) hx hb hr (fun t ht hW => ⟨_, rfl, by rw [mF_StepMachineModel_thirdOf, if_neg c_1_0, if_neg c_1_1, if_neg c_1_2, if_neg c_1_3, if_neg c_1_4, if_neg c_1_5, if_neg c_1_6, if_neg c_1_7, if_neg c_1_8, if_neg c_1_9, if_neg c_1_10, if_neg c_1_11, if_neg c_1_12, if_neg c_1_13, if_neg c_1_14, if_neg c_1_15, if_neg c_1_16, if_neg c_1_17, if_neg c_1_18, if_neg c_1_19, if_neg c_1_20, if_neg c_1_21, if_neg c_1_22, if_neg c_1_23, if_neg c_1_24, if_neg c_1_25, if_neg c_1_26, if_neg c_1_27, if_neg c_1_28, if_neg c_1_29, if_neg c_1_30, if_neg c_1_31, if_neg c_1_32, if_pos c_1_33], ht⟩) (fun q h => by cases h) d_M_thirdOf_177
                                                                    · skip
                                                                      by_cases c_1_34 : x0 = 39
                                                                      · skip
                                                                        refine lv_tableIn (tgt := 178) hx hb d_M_thirdOf_1 (by rw [c_1_34]; decide) (by rw [c_1_34]; decide) (by rw [c_1_34] <;> rfl) (by decide) ?_
                                                                        refine lv_iconst (v := 2) hx hb d_M_thirdOf_178 (by decide) ?_
                                                                        exact W.iret (v := 2) hx hb hr (fun t ht hW => ⟨_, rfl, by rw [mF_StepMachineModel_thirdOf, if_neg c_1_0, if_neg c_1_1, if_neg c_1_2, if_neg c_1_3, if_neg c_1_4, if_neg c_1_5, if_neg c_1_6, if_neg c_1_7, if_neg c_1_8, if_neg c_1_9, if_neg c_1_10, if_neg c_1_11, if_neg c_1_12, if_neg c_1_13, if_neg c_1_14, if_neg c_1_15, if_neg c_1_16, if_neg c_1_17, if_neg c_1_18, if_neg c_1_19, if_neg c_1_20, if_neg c_1_21, if_neg c_1_22, if_neg c_1_23, if_neg c_1_24, if_neg c_1_25, if_neg c_1_26, if_neg c_1_27, if_neg c_1_28, if_neg c_1_29, if_neg c_1_30, if_neg c_1_31, if_neg c_1_32, if_neg c_1_33, if_pos c_1_34], ht⟩) (fun q h => by cases h) d_M_thirdOf_179
                                                                      · skip
                                                                        by_cases c_1_35 : x0 = 40
                                                                        · skip
                                                                          refine lv_tableIn (tgt := 180) hx hb d_M_thirdOf_1 (by rw [c_1_35]; decide) (by rw [c_1_35]; decide) (by rw [c_1_35] <;> rfl) (by decide) ?_
                                                                          refine lv_iconst (v := 3) hx hb d_M_thirdOf_180 (by decide) ?_
                                                                          exact W.iret (v := 3) hx hb hr (fun t ht hW => ⟨_, rfl, by rw [mF_StepMachineModel_thirdOf, if_neg c_1_0, if_neg c_1_1, if_neg c_1_2, if_neg c_1_3, if_neg c_1_4, if_neg c_1_5, if_neg c_1_6, if_neg c_1_7, if_neg c_1_8, if_neg c_1_9, if_neg c_1_10, if_neg c_1_11, if_neg c_1_12, if_neg c_1_13, if_neg c_1_14, if_neg c_1_15, if_neg c_1_16, if_neg c_1_17, if_neg c_1_18, if_neg c_1_19, if_neg c_1_20, if_neg c_1_21, if_neg c_1_22, if_neg c_1_23, if_neg c_1_24, if_neg c_1_25, if_neg c_1_26, if_neg c_1_27, if_neg c_1_28, if_neg c_1_29, if_neg c_1_30, if_neg c_1_31, if_neg c_1_32, if_neg c_1_33, if_neg c_1_34, if_pos c_1_35], ht⟩) (fun q h => by cases h) d_M_thirdOf_181
                                                                        · skip
                                                                          by_cases c_1_36 : x0 = 41
                                                                          · skip
                                                                            refine lv_tableIn (tgt := 182) hx hb d_M_thirdOf_1 (by rw [c_1_36]; decide) (by rw [c_1_36]; decide) (by rw [c_1_36] <;> rfl) (by decide) ?_
                                                                            refine lv_iconst (v := 4) hx hb d_M_thirdOf_182 (by decide) ?_
                                                                            exact W.iret (v := 4) hx hb hr (fun t ht hW => ⟨_, rfl, by rw [mF_StepMachineModel_thirdOf, if_neg c_1_0, if_neg c_1_1, if_neg c_1_2, if_neg c_1_3, if_neg c_1_4, if_neg c_1_5, if_neg c_1_6, if_neg c_1_7, if_neg c_1_8, if_neg c_1_9, if_neg c_1_10, if_neg c_1_11, if_neg c_1_12, if_neg c_1_13, if_neg c_1_14, if_neg c_1_15, if_neg c_1_16, if_neg c_1_17, if_neg c_1_18, if_neg c_1_19, if_neg c_1_20, if_neg c_1_21, if_neg c_1_22, if_neg c_1_23, if_neg c_1_24, if_neg c_1_25, if_neg c_1_26, if_neg c_1_27, if_neg c_1_28, if_neg c_1_29, if_neg c_1_30, if_neg c_1_31, if_neg c_1_32, if_neg c_1_33, if_neg c_1_34, if_neg c_1_35, if_pos c_1_36], ht⟩) (fun q h => by cases h) d_M_thirdOf_183
                                                                          · skip
                                                                            by_cases c_1_37 : x0 = 42
                                                                            · skip
                                                                              refine lv_tableIn (tgt := 184) hx hb d_M_thirdOf_1 (by rw [c_1_37]; decide) (by rw [c_1_37]; decide) (by rw [c_1_37] <;> rfl) (by decide) ?_
                                                                              refine lv_iconst (v := 5) hx hb d_M_thirdOf_184 (by decide) ?_
                                                                              exact W.iret (v := 5) hx hb hr (fun t ht hW => ⟨_, rfl, by rw [mF_StepMachineModel_thirdOf, if_neg c_1_0, if_neg c_1_1, if_neg c_1_2, if_neg c_1_3, if_neg c_1_4, if_neg c_1_5, if_neg c_1_6, if_neg c_1_7, if_neg c_1_8, if_neg c_1_9, if_neg c_1_10, if_neg c_1_11, if_neg c_1_12, if_neg c_1_13, if_neg c_1_14, if_neg c_1_15, if_neg c_1_16, if_neg c_1_17, if_neg c_1_18, if_neg c_1_19, if_neg c_1_20, if_neg c_1_21, if_neg c_1_22, if_neg c_1_23, if_neg c_1_24, if_neg c_1_25, if_neg c_1_26, if_neg c_1_27, if_neg c_1_28, if_neg c_1_29, if_neg c_1_30, if_neg c_1_31, if_neg c_1_32, if_neg c_1_33, if_neg c_1_34, if_neg c_1_35, if_neg c_1_36, if_pos c_1_37], ht⟩) (fun q h => by cases h) d_M_thirdOf_185
                                                                            · skip
                                                                              by_cases c_1_38 : x0 = 43
                                                                              · skip
                                                                                refine lv_tableIn (tgt := 186) hx hb d_M_thirdOf_1 (by rw [c_1_38]; decide) (by rw [c_1_38]; decide) (by rw [c_1_38] <;> rfl) (by decide) ?_
                                                                                refine lv_bipush (v := 6) hx hb d_M_thirdOf_186 (by decide) ?_
                                                                                exact W.iret (v := 6) hx hb hr (fun t ht hW => ⟨_, rfl, by rw [mF_StepMachineModel_thirdOf, if_neg c_1_0, if_neg c_1_1, if_neg c_1_2, if_neg c_1_3, if_neg c_1_4, if_neg c_1_5, if_neg c_1_6, if_neg c_1_7, if_neg c_1_8, if_neg c_1_9, if_neg c_1_10, if_neg c_1_11, if_neg c_1_12, if_neg c_1_13, if_neg c_1_14, if_neg c_1_15, if_neg c_1_16, if_neg c_1_17, if_neg c_1_18, if_neg c_1_19, if_neg c_1_20, if_neg c_1_21, if_neg c_1_22, if_neg c_1_23, if_neg c_1_24, if_neg c_1_25, if_neg c_1_26, if_neg c_1_27, if_neg c_1_28, if_neg c_1_29, if_neg c_1_30, if_neg c_1_31, if_neg c_1_32, if_neg c_1_33, if_neg c_1_34, if_neg c_1_35, if_neg c_1_36, if_neg c_1_37, if_pos c_1_38], ht⟩) (fun q h => by cases h) d_M_thirdOf_188
                                                                              · skip
                                                                                by_cases c_1_39 : x0 = 44
                                                                                · skip
                                                                                  refine lv_tableIn (tgt := 189) hx hb d_M_thirdOf_1 (by rw [c_1_39]; decide) (by rw [c_1_39]; decide) (by rw [c_1_39] <;> rfl) (by decide) ?_
                                                                                  refine lv_bipush (v := 7) hx hb d_M_thirdOf_189 (by decide) ?_
                                                                                  exact W.iret (v := 7) hx hb hr (fun t ht hW => ⟨_, rfl, by rw [mF_StepMachineModel_thirdOf, if_neg c_1_0, if_neg c_1_1, if_neg c_1_2, if_neg c_1_3, if_neg c_1_4, if_neg c_1_5, if_neg c_1_6, if_neg c_1_7, if_neg c_1_8, if_neg c_1_9, if_neg c_1_10, if_neg c_1_11, if_neg c_1_12, if_neg c_1_13, if_neg c_1_14, if_neg c_1_15, if_neg c_1_16, if_neg c_1_17, if_neg c_1_18, if_neg c_1_19, if_neg c_1_20, if_neg c_1_21, if_neg c_1_22, if_neg c_1_23, if_neg c_1_24, if_neg c_1_25, if_neg c_1_26, if_neg c_1_27, if_neg c_1_28, if_neg c_1_29, if_neg c_1_30, if_neg c_1_31, if_neg c_1_32, if_neg c_1_33, if_neg c_1_34, if_neg c_1_35, if_neg c_1_36, if_neg c_1_37, if_neg c_1_38, if_pos c_1_39], ht⟩) (fun q h => by cases h) d_M_thirdOf_191
                                                                                · skip
                                                                                  refine lv_tableOut (tgt := 192) hx hb d_M_thirdOf_1 (by have n_0 := lv_neT (a := 5) c_1_0 (by decide); have n_1 := lv_neT (a := 6) c_1_1 (by decide); have n_2 := lv_neT (a := 7) c_1_2 (by decide); have n_3 := lv_neT (a := 8) c_1_3 (by decide); have n_4 := lv_neT (a := 9) c_1_4 (by decide); have n_5 := lv_neT (a := 10) c_1_5 (by decide); have n_6 := lv_neT (a := 11) c_1_6 (by decide); have n_7 := lv_neT (a := 12) c_1_7 (by decide); have n_8 := lv_neT (a := 13) c_1_8 (by decide); have n_9 := lv_neT (a := 14) c_1_9 (by decide); have n_10 := lv_neT (a := 15) c_1_10 (by decide); have n_11 := lv_neT (a := 16) c_1_11 (by decide); have n_12 := lv_neT (a := 17) c_1_12 (by decide); have n_13 := lv_neT (a := 18) c_1_13 (by decide); have n_14 := lv_neT (a := 19) c_1_14 (by decide); have n_15 := lv_neT (a := 20) c_1_15 (by decide); have n_16 := lv_neT (a := 21) c_1_16 (by decide); have n_17 := lv_neT (a := 22) c_1_17 (by decide); have n_18 := lv_neT (a := 23) c_1_18 (by decide); have n_19 := lv_neT (a := 24) c_1_19 (by decide); have n_20 := lv_neT (a := 25) c_1_20 (by decide); have n_21 := lv_neT (a := 26) c_1_21 (by decide); have n_22 := lv_neT (a := 27) c_1_22 (by decide); have n_23 := lv_neT (a := 28) c_1_23 (by decide); have n_24 := lv_neT (a := 29) c_1_24 (by decide); have n_25 := lv_neT (a := 30) c_1_25 (by decide); have n_26 := lv_neT (a := 31) c_1_26 (by decide); have n_27 := lv_neT (a := 32) c_1_27 (by decide); have n_28 := lv_neT (a := 33) c_1_28 (by decide); have n_29 := lv_neT (a := 34) c_1_29 (by decide); have n_30 := lv_neT (a := 35) c_1_30 (by decide); have n_31 := lv_neT (a := 36) c_1_31 (by decide); have n_32 := lv_neT (a := 37) c_1_32 (by decide); have n_33 := lv_neT (a := 38) c_1_33 (by decide); have n_34 := lv_neT (a := 39) c_1_34 (by decide); have n_35 := lv_neT (a := 40) c_1_35 (by decide); have n_36 := lv_neT (a := 41) c_1_36 (by decide); have n_37 := lv_neT (a := 42) c_1_37 (by decide); have n_38 := lv_neT (a := 43) c_1_38 (by decide); have n_39 := lv_neT (a := 44) c_1_39 (by decide); omega) (by decide) ?_
                                                                                  refine lv_iconst (v := 0) hx hb d_M_thirdOf_192 (by decide) ?_
                                                                                  exact W.iret (v := 0) hx hb hr (fun t ht hW => ⟨_, rfl, by rw [mF_StepMachineModel_thirdOf, if_neg c_1_0, if_neg c_1_1, if_neg c_1_2, if_neg c_1_3, if_neg c_1_4, if_neg c_1_5, if_neg c_1_6, if_neg c_1_7, if_neg c_1_8, if_neg c_1_9, if_neg c_1_10, if_neg c_1_11, if_neg c_1_12, if_neg c_1_13, if_neg c_1_14, if_neg c_1_15, if_neg c_1_16, if_neg c_1_17, if_neg c_1_18, if_neg c_1_19, if_neg c_1_20, if_neg c_1_21, if_neg c_1_22, if_neg c_1_23, if_neg c_1_24, if_neg c_1_25, if_neg c_1_26, if_neg c_1_27, if_neg c_1_28, if_neg c_1_29, if_neg c_1_30, if_neg c_1_31, if_neg c_1_32, if_neg c_1_33, if_neg c_1_34, if_neg c_1_35, if_neg c_1_36, if_neg c_1_37, if_neg c_1_38, if_neg c_1_39], ht⟩) (fun q h => by cases h) d_M_thirdOf_193
def mF_StepMachineModel_seventhOf (x0 : Int32) : Int32 := (if x0 = 26 then 32 else (if x0 = 28 then 32 else (if x0 = 34 then 32 else (if x0 ≤ 36 then 0 else 1))))
set_option maxHeartbeats 4000000 in
set_option maxRecDepth 100000 in
theorem mc_StepMachineModel_seventhOf (l : Launch) (D : va_G) (tc : Nat → ClassId) (tb : Nat → Nat) (z0 : Nat) (x0 : Int32) : Met l y_M_seventhOf (wM y_M_seventhOf b_M_seventhOf 1 (some .int)) ({ frames := 0, cells := 0, slots := 0, locals := 0 }) (va_Pc [.int x0] (Pr D tc tb z0 [])) (vp_Si (fun r => r = (mF_StepMachineModel_seventhOf x0))) 0 0 (fun _ => False) := by
  refine Met.ofW (cc := b_M_seventhOf) (maxL := 1) (ret := (some .int)) (by decide) rfl ?_
  intro p e s m args below meth c s₁ B hml hv
  obtain ⟨rfl, hP, hK, hB⟩ := hv
  have hx := B.exec
  have hb := B.bytes
  have hr := B.returns
  have hts : ∀ w ∈ wALL, w.before _ s = true := fun w h => atoms_spec (ws := (wM y_M_seventhOf b_M_seventhOf 1 (some .int))) B.pre w (List.mem_cons_of_mem _ h)
  have hown : s.vm.findClass "StepMachineModel" = some m.cls := findClass_of_methodNamed B.named
  have hlocks := B.notSynchronized
  have hl := lv_entry ([.int x0]) (n := 1) (Nat.le_of_ble_eq_true rfl)
  rw [lg_entry_eq]
  generalize (lg_sl ([.int x0]) ++ List.replicate (1 - (lg_sl ([.int x0])).length) Slot.unset).toArray = ls at hl ⊢
  have hl : lv_has ls 1 [(0, .int x0)] := hl
  refine lv_iload_n hx hb d_M_seventhOf_0 rfl (lv_at hl 0 rfl) ?_
  refine lv_bipush (v := 26) hx hb d_M_seventhOf_1 (by decide) ?_
  refine lv_icmp_eq (tgt := 18) hx hb d_M_seventhOf_3 (by decide) (fun c_3 => ?_) (fun c_3 => ?_)
  · skip
    refine lv_bipush (v := 32) hx hb d_M_seventhOf_18 (by decide) ?_
    refine lv_goto (tgt := 34) hx hb d_M_seventhOf_20 (by decide) ?_
    exact W.iret (v := 32) hx hb hr (fun t ht hW => ⟨_, rfl, by rw [mF_StepMachineModel_seventhOf, if_pos c_3], ht⟩) (fun q h => by cases h) d_M_seventhOf_34
  · skip
    refine lv_iload_n hx hb d_M_seventhOf_6 rfl (lv_at hl 0 rfl) ?_
    refine lv_bipush (v := 28) hx hb d_M_seventhOf_7 (by decide) ?_
    refine lv_icmp_eq (tgt := 18) hx hb d_M_seventhOf_9 (by decide) (fun c_9 => ?_) (fun c_9 => ?_)
    · skip
      refine lv_bipush (v := 32) hx hb d_M_seventhOf_18 (by decide) ?_
      refine lv_goto (tgt := 34) hx hb d_M_seventhOf_20 (by decide) ?_
      exact W.iret (v := 32) hx hb hr (fun t ht hW => ⟨_, rfl, by rw [mF_StepMachineModel_seventhOf, if_neg c_3, if_pos c_9], ht⟩) (fun q h => by cases h) d_M_seventhOf_34
    · skip
      refine lv_iload_n hx hb d_M_seventhOf_12 rfl (lv_at hl 0 rfl) ?_
      refine lv_bipush (v := 34) hx hb d_M_seventhOf_13 (by decide) ?_
      refine lv_icmp_ne (tgt := 23) hx hb d_M_seventhOf_15 (by decide) (fun c_15 => ?_) (fun c_15 => ?_)
      · skip
        refine lv_iload_n hx hb d_M_seventhOf_23 rfl (lv_at hl 0 rfl) ?_
        refine lv_bipush (v := 36) hx hb d_M_seventhOf_24 (by decide) ?_
        refine lv_icmp_le (tgt := 33) hx hb d_M_seventhOf_26 (by decide) (fun c_26 => ?_) (fun c_26 => ?_)
        · skip
          refine lv_iconst (v := 0) hx hb d_M_seventhOf_33 (by decide) ?_
          exact W.iret (v := 0) hx hb hr (fun t ht hW => ⟨_, rfl, by rw [mF_StepMachineModel_seventhOf, if_neg c_3, if_neg c_9, if_neg c_15, if_pos c_26], ht⟩) (fun q h => by cases h) d_M_seventhOf_34
        · skip
          refine lv_iconst (v := 1) hx hb d_M_seventhOf_29 (by decide) ?_
          refine lv_goto (tgt := 34) hx hb d_M_seventhOf_30 (by decide) ?_
          exact W.iret (v := 1) hx hb hr (fun t ht hW => ⟨_, rfl, by rw [mF_StepMachineModel_seventhOf, if_neg c_3, if_neg c_9, if_neg c_15, if_neg c_26], ht⟩) (fun q h => by cases h) d_M_seventhOf_34
      · skip
        refine lv_bipush (v := 32) hx hb d_M_seventhOf_18 (by decide) ?_
        refine lv_goto (tgt := 34) hx hb d_M_seventhOf_20 (by decide) ?_
        exact W.iret (v := 32) hx hb hr (fun t ht hW => ⟨_, rfl, by rw [mF_StepMachineModel_seventhOf, if_neg c_3, if_neg c_9, if_pos c_15], ht⟩) (fun q h => by cases h) d_M_seventhOf_34
theorem ob_lay {x k b : Int32} (hk : 0 ≤ x.toInt ∧ x.toInt < 75) (hlo : 0 ≤ b.toInt) (c : ¬ k < b) (hq : k.toInt ≤ 31) : vp_in ((32 * x) + k) 2400 := by
  have a := ob_nlt c
  have h := ti_32 hk
  exact ti_in (by rw [ti_add (by omega) (by omega)]; omega) (by rw [ti_add (by omega) (by omega)]; omega)
theorem lay_dn {k b : Int32} (hlo : 0 ≤ b.toInt) (c : ¬ k < b) (hq : k.toInt ≤ 31) : (k + (-1)).toInt ≤ 31 := by
  have a := ob_nlt c
  have e : (-1 : Int32).toInt = -1 := by decide
  rw [ti_add (by omega) (by omega)]
  omega
theorem ob_fix {x y n k : Int32} (hk : 0 ≤ x.toInt ∧ x.toInt < 75) (h1 : 0 ≤ y.toInt) (h2 : y.toInt + n.toInt ≤ 32) (c : ¬ n ≤ k) (hq : 0 ≤ k.toInt) : vp_in (((32 * x) + y) + k) 2400 := by
  have a := ob_nle c
  have h := ti_32 hk
  have h3 : ((32 * x) + y).toInt = 32 * x.toInt + y.toInt := by rw [ti_add (by omega) (by omega)]; omega
  exact ti_in (by rw [ti_add (by omega) (by omega)]; omega) (by rw [ti_add (by omega) (by omega)]; omega)
theorem ob_one {x y : Int32} (hk : 0 ≤ x.toInt ∧ x.toInt < 75) (h1 : 0 ≤ y.toInt ∧ y.toInt < 32) : vp_in ((32 * x) + y) 2400 := by
  have h := ti_32 hk
  exact ti_in (by rw [ti_add (by omega) (by omega)]; omega) (by rw [ti_add (by omega) (by omega)]; omega)
def mF_StepMachineModel_lay_L3 (x0 : Int32) (x1 : Int32) (x2 : Int32) (x3 : Int32) (x4 : Int32) : Nat → Int32 → (Nat → Int32) → Int32 × (Nat → Int32)
  | 0, k_3, m_rowL => (k_3, m_rowL)
  | n_ + 1, k_3, m_rowL => (if k_3 < x2 then (k_3, m_rowL) else ((mF_StepMachineModel_lay_L3 x0 x1 x2 x3 x4 n_) (k_3 + (-1)) (upd m_rowL ((32 * x0) + k_3).toNatClampNeg ((x3 + x4) - (x1 - k_3)))))
def mF_StepMachineModel_lay_1  (q_3 : Int32 × (Nat → Int32)) : (Nat → Int32) := q_3.2
def mF_StepMachineModel_lay (m_row : Nat → Int32) (x0 : Int32) (x1 : Int32) (x2 : Int32) (x3 : Int32) (x4 : Int32) : (Nat → Int32) := (mF_StepMachineModel_lay_1 (mF_StepMachineModel_lay_L3 x0 x1 x2 x3 x4 ((x1.toInt - x2.toInt + 1).toNat + 1) x1 m_row))
set_option maxHeartbeats 4000000 in
set_option maxRecDepth 100000 in
theorem mc_StepMachineModel_lay (l : Launch) (D : va_G) (tc : Nat → ClassId) (tb : Nat → Nat) (z0 : Nat) (sz : Nat) (b_x b_row b_part b_mem b_mrk b_sf b_ss b_sr b_h b_r b_in b_out b_k : Nat) (m_on : Int32) (m_hc : Int32) (m_pc : Int32) (m_giv : Int32) (m_tak : Int32) (m_put : Int32) (m_st : Int32) (m_cu : Int32) (m_va : Int32) (m_sp : Int32) (m_un : Int32) (m_kc : Int32) (m_kn : Int32) (m_by : Int32) (m_kd : Int32) (m_tg : Int32) (m_ju : Int32) (m_row : Nat → Int32) (x0 : Int32) (x1 : Int32) (x2 : Int32) (x3 : Int32) (x4 : Int32) (hk : 0 ≤ x0.toInt ∧ x0.toInt < 75) (hlo : 0 ≤ x2.toInt) (hhi : x1.toInt ≤ 31) : Met l y_M_lay (wM y_M_lay b_M_lay 7 none) ({ frames := 0, cells := 0, slots := 0, locals := 0 }) (va_Pc [.ref b_x, .int x0, .int x1, .int x2, .int x3, .int x4] (Pw D tc tb z0 [(b_x, .inr (9, [.ref b_row, .ref b_part, .ref b_mem, .ref b_mrk, .ref b_sf, .ref b_ss, .ref b_sr, .int m_on, .ref b_h, .int m_hc, .ref b_r, .int m_pc, .ref b_in, .int m_giv, .int m_tak, .ref b_out, .int m_put, .int m_st, .int m_cu, .int m_va, .int m_sp, .int m_un, .ref b_k, .int m_kc, .int m_kn, .int m_by, .int m_kd, .int m_tg, .int m_ju])), (b_row, .inl (tc 0, 2400, .inl m_row))] sz)) (va_Qv (fun u : (Nat → Int32) => u = (mF_StepMachineModel_lay m_row x0 x1 x2 x3 x4)) (Bw D tc (va_A [(b_x, .inr (9, [.ref b_row, .ref b_part, .ref b_mem, .ref b_mrk, .ref b_sf, .ref b_ss, .ref b_sr, .int m_on, .ref b_h, .int m_hc, .ref b_r, .int m_pc, .ref b_in, .int m_giv, .int m_tak, .ref b_out, .int m_put, .int m_st, .int m_cu, .int m_va, .int m_sp, .int m_un, .ref b_k, .int m_kc, .int m_kn, .int m_by, .int m_kd, .int m_tg, .int m_ju])), (b_row, .inl (tc 0, 2400, .inl m_row))] sz) (fun u => [(b_x, .inr (9, [.ref b_row, .ref b_part, .ref b_mem, .ref b_mrk, .ref b_sf, .ref b_ss, .ref b_sr, .int m_on, .ref b_h, .int m_hc, .ref b_r, .int m_pc, .ref b_in, .int m_giv, .int m_tak, .ref b_out, .int m_put, .int m_st, .int m_cu, .int m_va, .int m_sp, .int m_un, .ref b_k, .int m_kc, .int m_kn, .int m_by, .int m_kd, .int m_tg, .int m_ju])), (b_row, .inl (tc 0, 2400, .inl u))])) (va_A [(b_x, .inr (9, [.ref b_row, .ref b_part, .ref b_mem, .ref b_mrk, .ref b_sf, .ref b_ss, .ref b_sr, .int m_on, .ref b_h, .int m_hc, .ref b_r, .int m_pc, .ref b_in, .int m_giv, .int m_tak, .ref b_out, .int m_put, .int m_st, .int m_cu, .int m_va, .int m_sp, .int m_un, .ref b_k, .int m_kc, .int m_kn, .int m_by, .int m_kd, .int m_tg, .int m_ju])), (b_row, .inl (tc 0, 2400, .inl m_row))] sz)) 0 0 (va_A [(b_x, .inr (9, [.ref b_row, .ref b_part, .ref b_mem, .ref b_mrk, .ref b_sf, .ref b_ss, .ref b_sr, .int m_on, .ref b_h, .int m_hc, .ref b_r, .int m_pc, .ref b_in, .int m_giv, .int m_tak, .ref b_out, .int m_put, .int m_st, .int m_cu, .int m_va, .int m_sp, .int m_un, .ref b_k, .int m_kc, .int m_kn, .int m_by, .int m_kd, .int m_tg, .int m_ju])), (b_row, .inl (tc 0, 2400, .inl m_row))] sz) := by
  refine Met.ofW (cc := b_M_lay) (maxL := 7) (ret := none) (by decide) rfl ?_
  intro p e s m args below meth c s₁ B hml hv
  obtain ⟨rfl, hsz, hP, hK, hB, hD0, hZ0⟩ := hv
  have hx := B.exec
  have hb := B.bytes
  have hr := B.returns
  have hts : ∀ w ∈ wALL, w.before _ s = true := fun w h => atoms_spec (ws := (wM y_M_lay b_M_lay 7 none)) B.pre w (List.mem_cons_of_mem _ h)
  have hown : s.vm.findClass "StepMachineModel" = some m.cls := findClass_of_methodNamed B.named
  have hlocks := B.notSynchronized
  subst hsz
  have hD := hD0.self (sz := s.heap.size)
  generalize hAe : va_A [(b_x, .inr (9, [.ref b_row, .ref b_part, .ref b_mem, .ref b_mrk, .ref b_sf, .ref b_ss, .ref b_sr, .int m_on, .ref b_h, .int m_hc, .ref b_r, .int m_pc, .ref b_in, .int m_giv, .int m_tak, .ref b_out, .int m_put, .int m_st, .int m_cu, .int m_va, .int m_sp, .int m_un, .ref b_k, .int m_kc, .int m_kn, .int m_by, .int m_kd, .int m_tg, .int m_ju])), (b_row, .inl (tc 0, 2400, .inl m_row))] s.heap.size = A at hD ⊢
  have hZ : ∀ q : Nat, A q → z0 ≤ q := by rw [← hAe]; exact hZ0
  have hA : ∀ q : Nat, s.heap.size ≤ q → A q := fun q h => by rw [← hAe]; exact Or.inr h
  have hS : va_S A s.heap s.heap [] := va_S.rf
  have hl := lv_entry ([.ref b_x, .int x0, .int x1, .int x2, .int x3, .int x4]) (n := 7) (Nat.le_of_ble_eq_true rfl)
  rw [lg_entry_eq]
  generalize (lg_sl ([.ref b_x, .int x0, .int x1, .int x2, .int x3, .int x4]) ++ List.replicate (7 - (lg_sl ([.ref b_x, .int x0, .int x1, .int x2, .int x3, .int x4])).length) Slot.unset).toArray = ls at hl ⊢
  have hl : lv_has ls 7 [(0, .ref b_x), (1, .int x0), (2, .int x1), (3, .int x2), (4, .int x3), (5, .int x4)] := hl
  refine lv_iload_n hx hb d_M_lay_0 rfl (lv_at hl 2 rfl) ?_
  refine lv_istore (lv' := [(6, .int x1), (0, .ref b_x), (1, .int x0), (2, .int x1), (3, .int x2), (4, .int x3), (5, .int x4)]) hx hb d_M_lay_1 hl (by decide) rfl (fun ls hl => ?_)
  have loop_3 : ∀ (n_3 : Nat) (k_3 : Int32) (m_rowL : Nat → Int32) (H : Heap) (locs : List Loc) (ls : Array Slot), (k_3.toInt ≤ 31) → (k_3.toInt - x2.toInt + 1).toNat < n_3 → (∀ (H : Heap) (locs : List Loc) (ls : Array Slot), ((mF_StepMachineModel_lay_L3 x0 x1 x2 x3 x4 n_3 k_3 m_rowL).1.toInt ≤ 31) → va_P D vwCl [(b_x, .inr (9, [.ref b_row, .ref b_part, .ref b_mem, .ref b_mrk, .ref b_sf, .ref b_ss, .ref b_sr, .int m_on, .ref b_h, .int m_hc, .ref b_r, .int m_pc, .ref b_in, .int m_giv, .int m_tak, .ref b_out, .int m_put, .int m_st, .int m_cu, .int m_va, .int m_sp, .int m_un, .ref b_k, .int m_kc, .int m_kn, .int m_by, .int m_kd, .int m_tg, .int m_ju])), (b_row, .inl (tc 0, 2400, .inl ((mF_StepMachineModel_lay_L3 x0 x1 x2 x3 x4 n_3 k_3 m_rowL).2)))] H → va_D A [(b_x, .inr (9, [.ref b_row, .ref b_part, .ref b_mem, .ref b_mrk, .ref b_sf, .ref b_ss, .ref b_sr, .int m_on, .ref b_h, .int m_hc, .ref b_r, .int m_pc, .ref b_in, .int m_giv, .int m_tak, .ref b_out, .int m_put, .int m_st, .int m_cu, .int m_va, .int m_sp, .int m_un, .ref b_k, .int m_kc, .int m_kn, .int m_by, .int m_kd, .int m_tg, .int m_ju])), (b_row, .inl (tc 0, 2400, .inl ((mF_StepMachineModel_lay_L3 x0 x1 x2 x3 x4 n_3 k_3 m_rowL).2)))] → va_S A s.heap H locs → lv_has ls 7 [(6, .int ((mF_StepMachineModel_lay_L3 x0 x1 x2 x3 x4 n_3 k_3 m_rowL).1)), (0, .ref b_x), (1, .int x0), (2, .int x1), (3, .int x2), (4, .int x3), (5, .int x4)] → W p l e (headSpec (wM y_M_lay b_M_lay 7 none) ({ frames := 0, cells := 0, slots := 0, locals := 0 })).room s m ([.ref b_x, .int x0, .int x1, .int x2, .int x3, .int x4]).toArray below meth c H locs 0 0 (MQ below (va_Qv (fun u : (Nat → Int32) => u = (mF_StepMachineModel_lay m_row x0 x1 x2 x3 x4)) (Bw D tc A (fun u => [(b_x, .inr (9, [.ref b_row, .ref b_part, .ref b_mem, .ref b_mrk, .ref b_sf, .ref b_ss, .ref b_sr, .int m_on, .ref b_h, .int m_hc, .ref b_r, .int m_pc, .ref b_in, .int m_giv, .int m_tak, .ref b_out, .int m_put, .int m_st, .int m_cu, .int m_va, .int m_sp, .int m_un, .ref b_k, .int m_kc, .int m_kn, .int m_by, .int m_kd, .int m_tg, .int m_ju])), (b_row, .inl (tc 0, 2400, .inl u))])) A) ([.ref b_x, .int x0, .int x1, .int x2, .int x3, .int x4]).toArray s 0 0 A) (F0 m 37 ls [])) → va_P D vwCl [(b_x, .inr (9, [.ref b_row, .ref b_part, .ref b_mem, .ref b_mrk, .ref b_sf, .ref b_ss, .ref b_sr, .int m_on, .ref b_h, .int m_hc, .ref b_r, .int m_pc, .ref b_in, .int m_giv, .int m_tak, .ref b_out, .int m_put, .int m_st, .int m_cu, .int m_va, .int m_sp, .int m_un, .ref b_k, .int m_kc, .int m_kn, .int m_by, .int m_kd, .int m_tg, .int m_ju])), (b_row, .inl (tc 0, 2400, .inl m_rowL))] H → va_D A [(b_x, .inr (9, [.ref b_row, .ref b_part, .ref b_mem, .ref b_mrk, .ref b_sf, .ref b_ss, .ref b_sr, .int m_on, .ref b_h, .int m_hc, .ref b_r, .int m_pc, .ref b_in, .int m_giv, .int m_tak, .ref b_out, .int m_put, .int m_st, .int m_cu, .int m_va, .int m_sp, .int m_un, .ref b_k, .int m_kc, .int m_kn, .int m_by, .int m_kd, .int m_tg, .int m_ju])), (b_row, .inl (tc 0, 2400, .inl m_rowL))] → va_S A s.heap H locs → lv_has ls 7 [(6, .int k_3), (0, .ref b_x), (1, .int x0), (2, .int x1), (3, .int x2), (4, .int x3), (5, .int x4)] → W p l e (headSpec (wM y_M_lay b_M_lay 7 none) ({ frames := 0, cells := 0, slots := 0, locals := 0 })).room s m ([.ref b_x, .int x0, .int x1, .int x2, .int x3, .int x4]).toArray below meth c H locs 0 0 (MQ below (va_Qv (fun u : (Nat → Int32) => u = (mF_StepMachineModel_lay m_row x0 x1 x2 x3 x4)) (Bw D tc A (fun u => [(b_x, .inr (9, [.ref b_row, .ref b_part, .ref b_mem, .ref b_mrk, .ref b_sf, .ref b_ss, .ref b_sr, .int m_on, .ref b_h, .int m_hc, .ref b_r, .int m_pc, .ref b_in, .int m_giv, .int m_tak, .ref b_out, .int m_put, .int m_st, .int m_cu, .int m_va, .int m_sp, .int m_un, .ref b_k, .int m_kc, .int m_kn, .int m_by, .int m_kd, .int m_tg, .int m_ju])), (b_row, .inl (tc 0, 2400, .inl u))])) A) ([.ref b_x, .int x0, .int x1, .int x2, .int x3, .int x4]).toArray s 0 0 A) (F0 m 3 ls []) := by
    intro n_3
    induction n_3 with
    | zero =>
      intro k_3 m_rowL H locs ls hq hm
      exact absurd hm (Nat.not_lt_zero _)
    | succ n_3 ih_3 =>
      intro k_3 m_rowL H locs ls hq hm_3 hX_3 hP hD hS hl
      refine lv_iload hx hb d_M_lay_3 (lv_at hl 0 rfl) ?_
      refine lv_iload_n hx hb d_M_lay_5 rfl (lv_at hl 4 rfl) ?_
      refine lv_icmp_lt (tgt := 37) hx hb d_M_lay_6 (by decide) (fun c_6 => ?_) (fun c_6 => ?_)
      · skip
        rw [mF_StepMachineModel_lay_L3, if_pos c_6] at hX_3
        exact hX_3 _ _ ls hq hP hD hS (lv_sub hl [0, 1, 2, 3, 4, 5, 6] rfl)
      · skip
        refine lv_aload_n hx hb d_M_lay_9 rfl (lv_at hl 1 rfl) ?_
        refine va_get (D := D) (ci := 9) (v := .ref b_row) (C := "StepMachineModel") (T := TX9) (N := 29) hx hb hts inU_9 hown hK hP 0 rfl rfl 0 (by decide) (hts _ a_633) (fun _ h9 => h9) rfl d_M_lay_10 ?_
        refine lv_bipush (v := 32) hx hb d_M_lay_13 (by decide) ?_
        refine lv_iload_n hx hb d_M_lay_15 rfl (lv_at hl 2 rfl) ?_
        refine lv_imul hx hb d_M_lay_16 ?_
        refine lv_iload hx hb d_M_lay_17 (lv_at hl 0 rfl) ?_
        refine lv_iadd hx hb d_M_lay_19 ?_
        refine lv_iload hx hb d_M_lay_20 (lv_at hl 5 rfl) ?_
        refine lv_iload hx hb d_M_lay_22 (lv_at hl 6 rfl) ?_
        refine lv_iadd hx hb d_M_lay_24 ?_
        refine lv_iload_n hx hb d_M_lay_25 rfl (lv_at hl 3 rfl) ?_
        refine lv_iload hx hb d_M_lay_26 (lv_at hl 0 rfl) ?_
        refine lv_isub hx hb d_M_lay_28 ?_
        refine lv_isub hx hb d_M_lay_29 ?_
        refine va_iast hx hb hK hP hD hS 1 0 rfl rfl (ob_lay hk hlo c_6 hq) d_M_lay_30 (fun H locs hP hD hS => ?_)
        have hP : va_P D vwCl [(b_x, .inr (9, [.ref b_row, .ref b_part, .ref b_mem, .ref b_mrk, .ref b_sf, .ref b_ss, .ref b_sr, .int m_on, .ref b_h, .int m_hc, .ref b_r, .int m_pc, .ref b_in, .int m_giv, .int m_tak, .ref b_out, .int m_put, .int m_st, .int m_cu, .int m_va, .int m_sp, .int m_un, .ref b_k, .int m_kc, .int m_kn, .int m_by, .int m_kd, .int m_tg, .int m_ju])), (b_row, .inl (tc 0, 2400, .inl (upd m_rowL ((32 * x0) + k_3).toNatClampNeg ((x3 + x4) - (x1 - k_3)))))] H := hP
        have hD : va_D A [(b_x, .inr (9, [.ref b_row, .ref b_part, .ref b_mem, .ref b_mrk, .ref b_sf, .ref b_ss, .ref b_sr, .int m_on, .ref b_h, .int m_hc, .ref b_r, .int m_pc, .ref b_in, .int m_giv, .int m_tak, .ref b_out, .int m_put, .int m_st, .int m_cu, .int m_va, .int m_sp, .int m_un, .ref b_k, .int m_kc, .int m_kn, .int m_by, .int m_kd, .int m_tg, .int m_ju])), (b_row, .inl (tc 0, 2400, .inl (upd m_rowL ((32 * x0) + k_3).toNatClampNeg ((x3 + x4) - (x1 - k_3)))))] := hD
        refine lv_iinc (v := (k_3 + (-1))) (lv' := [(6, .int (k_3 + (-1))), (0, .ref b_x), (1, .int x0), (2, .int x1), (3, .int x2), (4, .int x3), (5, .int x4)]) hx hb d_M_lay_31 hl (k := 0) rfl rfl (by decide) rfl (fun ls hl => ?_)
        refine lv_goto (tgt := 3) hx hb d_M_lay_34 (by decide) ?_
        exact ih_3 (k_3 + (-1)) (upd m_rowL ((32 * x0) + k_3).toNatClampNeg ((x3 + x4) - (x1 - k_3))) _ _ ls (lay_dn hlo c_6 hq) (ms_stepD hlo c_6 hm_3) (by have h := hX_3; rw [mF_StepMachineModel_lay_L3, if_neg c_6] at h; exact h) hP hD hS (lv_sub hl [0, 1, 2, 3, 4, 5, 6] rfl)
  obtain ⟨q_3, e_3⟩ : ∃ z, z = (mF_StepMachineModel_lay_L3 x0 x1 x2 x3 x4 ((x1.toInt - x2.toInt + 1).toNat + 1) x1 m_row) := ⟨_, rfl⟩
  refine loop_3 ((x1.toInt - x2.toInt + 1).toNat + 1) x1 m_row _ _ ls hhi (Nat.lt_succ_self _) ?_ hP hD hS (lv_sub hl [0, 1, 2, 3, 4, 5, 6] rfl)
  rw [← e_3]
  intro H locs ls hq hP hD hS hl
  have hP : va_P D vwCl [(b_x, .inr (9, [.ref b_row, .ref b_part, .ref b_mem, .ref b_mrk, .ref b_sf, .ref b_ss, .ref b_sr, .int m_on, .ref b_h, .int m_hc, .ref b_r, .int m_pc, .ref b_in, .int m_giv, .int m_tak, .ref b_out, .int m_put, .int m_st, .int m_cu, .int m_va, .int m_sp, .int m_un, .ref b_k, .int m_kc, .int m_kn, .int m_by, .int m_kd, .int m_tg, .int m_ju])), (b_row, .inl (tc 0, 2400, .inl q_3.2))] H := hP
  have hD : va_D A [(b_x, .inr (9, [.ref b_row, .ref b_part, .ref b_mem, .ref b_mrk, .ref b_sf, .ref b_ss, .ref b_sr, .int m_on, .ref b_h, .int m_hc, .ref b_r, .int m_pc, .ref b_in, .int m_giv, .int m_tak, .ref b_out, .int m_put, .int m_st, .int m_cu, .int m_va, .int m_sp, .int m_un, .ref b_k, .int m_kc, .int m_kn, .int m_by, .int m_kd, .int m_tg, .int m_ju])), (b_row, .inl (tc 0, 2400, .inl q_3.2))] := hD
  have hl : lv_has ls 7 [(6, .int q_3.1), (0, .ref b_x), (1, .int x0), (2, .int x1), (3, .int x2), (4, .int x3), (5, .int x4)] := hl
  exact W.vret hx hb hr (fun t ht hW => ⟨⟨q_3.2, rfl, by rw [mF_StepMachineModel_lay, ← e_3, mF_StepMachineModel_lay_1], by rw [ht]; exact hP, va_K.moved hW.alike hK, hD⟩, hS.F ht⟩) hS.2.2 d_M_lay_37
def mF_StepMachineModel_fix_L3 (x0 : Int32) (x1 : Int32) (x2 : Int32) (x3 : Int32) : Nat → Int32 → (Nat → Int32) → Int32 × (Nat → Int32)
  | 0, k_3, m_rowL => (k_3, m_rowL)
  | n_ + 1, k_3, m_rowL => (if x2 ≤ k_3 then (k_3, m_rowL) else ((mF_StepMachineModel_fix_L3 x0 x1 x2 x3 n_) (k_3 + 1) (upd m_rowL (((32 * x0) + x1) + k_3).toNatClampNeg ((x3 >>> (k_3 &&& 31)) &&& 1))))
def mF_StepMachineModel_fix_1  (q_3 : Int32 × (Nat → Int32)) : (Nat → Int32) := q_3.2
def mF_StepMachineModel_fix (m_row : Nat → Int32) (x0 : Int32) (x1 : Int32) (x2 : Int32) (x3 : Int32) : (Nat → Int32) := (mF_StepMachineModel_fix_1 (mF_StepMachineModel_fix_L3 x0 x1 x2 x3 ((x2.toInt - (0 : Int32).toInt).toNat + 1) (0 : Int32) m_row))
set_option maxHeartbeats 4000000 in
set_option maxRecDepth 100000 in
theorem mc_StepMachineModel_fix (l : Launch) (D : va_G) (tc : Nat → ClassId) (tb : Nat → Nat) (z0 : Nat) (sz : Nat) (b_x b_row b_part b_mem b_mrk b_sf b_ss b_sr b_h b_r b_in b_out b_k : Nat) (m_on : Int32) (m_hc : Int32) (m_pc : Int32) (m_giv : Int32) (m_tak : Int32) (m_put : Int32) (m_st : Int32) (m_cu : Int32) (m_va : Int32) (m_sp : Int32) (m_un : Int32) (m_kc : Int32) (m_kn : Int32) (m_by : Int32) (m_kd : Int32) (m_tg : Int32) (m_ju : Int32) (m_row : Nat → Int32) (x0 : Int32) (x1 : Int32) (x2 : Int32) (x3 : Int32) (hk : 0 ≤ x0.toInt ∧ x0.toInt < 75) (hlo : 0 ≤ x1.toInt) (hhi : x1.toInt + x2.toInt ≤ 32) : Met l y_M_fix (wM y_M_fix b_M_fix 6 none) ({ frames := 0, cells := 0, slots := 0, locals := 0 }) (va_Pc [.ref b_x, .int x0, .int x1, .int x2, .int x3] (Pw D tc tb z0 [(b_x, .inr (9, [.ref b_row, .ref b_part, .ref b_mem, .ref b_mrk, .ref b_sf, .ref b_ss, .ref b_sr, .int m_on, .ref b_h, .int m_hc, .ref b_r, .int m_pc, .ref b_in, .int m_giv, .int m_tak, .ref b_out, .int m_put, .int m_st, .int m_cu, .int m_va, .int m_sp, .int m_un, .ref b_k, .int m_kc, .int m_kn, .int m_by, .int m_kd, .int m_tg, .int m_ju])), (b_row, .inl (tc 0, 2400, .inl m_row))] sz)) (va_Qv (fun u : (Nat → Int32) => u = (mF_StepMachineModel_fix m_row x0 x1 x2 x3)) (Bw D tc (va_A [(b_x, .inr (9, [.ref b_row, .ref b_part, .ref b_mem, .ref b_mrk, .ref b_sf, .ref b_ss, .ref b_sr, .int m_on, .ref b_h, .int m_hc, .ref b_r, .int m_pc, .ref b_in, .int m_giv, .int m_tak, .ref b_out, .int m_put, .int m_st, .int m_cu, .int m_va, .int m_sp, .int m_un, .ref b_k, .int m_kc, .int m_kn, .int m_by, .int m_kd, .int m_tg, .int m_ju])), (b_row, .inl (tc 0, 2400, .inl m_row))] sz) (fun u => [(b_x, .inr (9, [.ref b_row, .ref b_part, .ref b_mem, .ref b_mrk, .ref b_sf, .ref b_ss, .ref b_sr, .int m_on, .ref b_h, .int m_hc, .ref b_r, .int m_pc, .ref b_in, .int m_giv, .int m_tak, .ref b_out, .int m_put, .int m_st, .int m_cu, .int m_va, .int m_sp, .int m_un, .ref b_k, .int m_kc, .int m_kn, .int m_by, .int m_kd, .int m_tg, .int m_ju])), (b_row, .inl (tc 0, 2400, .inl u))])) (va_A [(b_x, .inr (9, [.ref b_row, .ref b_part, .ref b_mem, .ref b_mrk, .ref b_sf, .ref b_ss, .ref b_sr, .int m_on, .ref b_h, .int m_hc, .ref b_r, .int m_pc, .ref b_in, .int m_giv, .int m_tak, .ref b_out, .int m_put, .int m_st, .int m_cu, .int m_va, .int m_sp, .int m_un, .ref b_k, .int m_kc, .int m_kn, .int m_by, .int m_kd, .int m_tg, .int m_ju])), (b_row, .inl (tc 0, 2400, .inl m_row))] sz)) 0 0 (va_A [(b_x, .inr (9, [.ref b_row, .ref b_part, .ref b_mem, .ref b_mrk, .ref b_sf, .ref b_ss, .ref b_sr, .int m_on, .ref b_h, .int m_hc, .ref b_r, .int m_pc, .ref b_in, .int m_giv, .int m_tak, .ref b_out, .int m_put, .int m_st, .int m_cu, .int m_va, .int m_sp, .int m_un, .ref b_k, .int m_kc, .int m_kn, .int m_by, .int m_kd, .int m_tg, .int m_ju])), (b_row, .inl (tc 0, 2400, .inl m_row))] sz) := by
  refine Met.ofW (cc := b_M_fix) (maxL := 6) (ret := none) (by decide) rfl ?_
  intro p e s m args below meth c s₁ B hml hv
  obtain ⟨rfl, hsz, hP, hK, hB, hD0, hZ0⟩ := hv
  have hx := B.exec
  have hb := B.bytes
  have hr := B.returns
  have hts : ∀ w ∈ wALL, w.before _ s = true := fun w h => atoms_spec (ws := (wM y_M_fix b_M_fix 6 none)) B.pre w (List.mem_cons_of_mem _ h)
  have hown : s.vm.findClass "StepMachineModel" = some m.cls := findClass_of_methodNamed B.named
  have hlocks := B.notSynchronized
  subst hsz
  have hD := hD0.self (sz := s.heap.size)
  generalize hAe : va_A [(b_x, .inr (9, [.ref b_row, .ref b_part, .ref b_mem, .ref b_mrk, .ref b_sf, .ref b_ss, .ref b_sr, .int m_on, .ref b_h, .int m_hc, .ref b_r, .int m_pc, .ref b_in, .int m_giv, .int m_tak, .ref b_out, .int m_put, .int m_st, .int m_cu, .int m_va, .int m_sp, .int m_un, .ref b_k, .int m_kc, .int m_kn, .int m_by, .int m_kd, .int m_tg, .int m_ju])), (b_row, .inl (tc 0, 2400, .inl m_row))] s.heap.size = A at hD ⊢
  have hZ : ∀ q : Nat, A q → z0 ≤ q := by rw [← hAe]; exact hZ0
  have hA : ∀ q : Nat, s.heap.size ≤ q → A q := fun q h => by rw [← hAe]; exact Or.inr h
  have hS : va_S A s.heap s.heap [] := va_S.rf
  have hl := lv_entry ([.ref b_x, .int x0, .int x1, .int x2, .int x3]) (n := 6) (Nat.le_of_ble_eq_true rfl)
  rw [lg_entry_eq]
  generalize (lg_sl ([.ref b_x, .int x0, .int x1, .int x2, .int x3]) ++ List.replicate (6 - (lg_sl ([.ref b_x, .int x0, .int x1, .int x2, .int x3])).length) Slot.unset).toArray = ls at hl ⊢
  have hl : lv_has ls 6 [(0, .ref b_x), (1, .int x0), (2, .int x1), (3, .int x2), (4, .int x3)] := hl
  refine lv_iconst (v := 0) hx hb d_M_fix_0 (by decide) ?_
  refine lv_istore (lv' := [(5, .int 0), (0, .ref b_x), (1, .int x0), (2, .int x1), (3, .int x2), (4, .int x3)]) hx hb d_M_fix_1 hl (by decide) rfl (fun ls hl => ?_)
  have loop_3 : ∀ (n_3 : Nat) (k_3 : Int32) (m_rowL : Nat → Int32) (H : Heap) (locs : List Loc) (ls : Array Slot), (0 ≤ k_3.toInt) → (x2.toInt - k_3.toInt).toNat < n_3 → (∀ (H : Heap) (locs : List Loc) (ls : Array Slot), (0 ≤ (mF_StepMachineModel_fix_L3 x0 x1 x2 x3 n_3 k_3 m_rowL).1.toInt) → va_P D vwCl [(b_x, .inr (9, [.ref b_row, .ref b_part, .ref b_mem, .ref b_mrk, .ref b_sf, .ref b_ss, .ref b_sr, .int m_on, .ref b_h, .int m_hc, .ref b_r, .int m_pc, .ref b_in, .int m_giv, .int m_tak, .ref b_out, .int m_put, .int m_st, .int m_cu, .int m_va, .int m_sp, .int m_un, .ref b_k, .int m_kc, .int m_kn, .int m_by, .int m_kd, .int m_tg, .int m_ju])), (b_row, .inl (tc 0, 2400, .inl ((mF_StepMachineModel_fix_L3 x0 x1 x2 x3 n_3 k_3 m_rowL).2)))] H → va_D A [(b_x, .inr (9, [.ref b_row, .ref b_part, .ref b_mem, .ref b_mrk, .ref b_sf, .ref b_ss, .ref b_sr, .int m_on, .ref b_h, .int m_hc, .ref b_r, .int m_pc, .ref b_in, .int m_giv, .int m_tak, .ref b_out, .int m_put, .int m_st, .int m_cu, .int m_va, .int m_sp, .int m_un, .ref b_k, .int m_kc, .int m_kn, .int m_by, .int m_kd, .int m_tg, .int m_ju])), (b_row, .inl (tc 0, 2400, .inl ((mF_StepMachineModel_fix_L3 x0 x1 x2 x3 n_3 k_3 m_rowL).2)))] → va_S A s.heap H locs → lv_has ls 6 [(5, .int ((mF_StepMachineModel_fix_L3 x0 x1 x2 x3 n_3 k_3 m_rowL).1)), (0, .ref b_x), (1, .int x0), (2, .int x1), (3, .int x2), (4, .int x3)] → W p l e (headSpec (wM y_M_fix b_M_fix 6 none) ({ frames := 0, cells := 0, slots := 0, locals := 0 })).room s m ([.ref b_x, .int x0, .int x1, .int x2, .int x3]).toArray below meth c H locs 0 0 (MQ below (va_Qv (fun u : (Nat → Int32) => u = (mF_StepMachineModel_fix m_row x0 x1 x2 x3)) (Bw D tc A (fun u => [(b_x, .inr (9, [.ref b_row, .ref b_part, .ref b_mem, .ref b_mrk, .ref b_sf, .ref b_ss, .ref b_sr, .int m_on, .ref b_h, .int m_hc, .ref b_r, .int m_pc, .ref b_in, .int m_giv, .int m_tak, .ref b_out, .int m_put, .int m_st, .int m_cu, .int m_va, .int m_sp, .int m_un, .ref b_k, .int m_kc, .int m_kn, .int m_by, .int m_kd, .int m_tg, .int m_ju])), (b_row, .inl (tc 0, 2400, .inl u))])) A) ([.ref b_x, .int x0, .int x1, .int x2, .int x3]).toArray s 0 0 A) (F0 m 36 ls [])) → va_P D vwCl [(b_x, .inr (9, [.ref b_row, .ref b_part, .ref b_mem, .ref b_mrk, .ref b_sf, .ref b_ss, .ref b_sr, .int m_on, .ref b_h, .int m_hc, .ref b_r, .int m_pc, .ref b_in, .int m_giv, .int m_tak, .ref b_out, .int m_put, .int m_st, .int m_cu, .int m_va, .int m_sp, .int m_un, .ref b_k, .int m_kc, .int m_kn, .int m_by, .int m_kd, .int m_tg, .int m_ju])), (b_row, .inl (tc 0, 2400, .inl m_rowL))] H → va_D A [(b_x, .inr (9, [.ref b_row, .ref b_part, .ref b_mem, .ref b_mrk, .ref b_sf, .ref b_ss, .ref b_sr, .int m_on, .ref b_h, .int m_hc, .ref b_r, .int m_pc, .ref b_in, .int m_giv, .int m_tak, .ref b_out, .int m_put, .int m_st, .int m_cu, .int m_va, .int m_sp, .int m_un, .ref b_k, .int m_kc, .int m_kn, .int m_by, .int m_kd, .int m_tg, .int m_ju])), (b_row, .inl (tc 0, 2400, .inl m_rowL))] → va_S A s.heap H locs → lv_has ls 6 [(5, .int k_3), (0, .ref b_x), (1, .int x0), (2, .int x1), (3, .int x2), (4, .int x3)] → W p l e (headSpec (wM y_M_fix b_M_fix 6 none) ({ frames := 0, cells := 0, slots := 0, locals := 0 })).room s m ([.ref b_x, .int x0, .int x1, .int x2, .int x3]).toArray below meth c H locs 0 0 (MQ below (va_Qv (fun u : (Nat → Int32) => u = (mF_StepMachineModel_fix m_row x0 x1 x2 x3)) (Bw D tc A (fun u => [(b_x, .inr (9, [.ref b_row, .ref b_part, .ref b_mem, .ref b_mrk, .ref b_sf, .ref b_ss, .ref b_sr, .int m_on, .ref b_h, .int m_hc, .ref b_r, .int m_pc, .ref b_in, .int m_giv, .int m_tak, .ref b_out, .int m_put, .int m_st, .int m_cu, .int m_va, .int m_sp, .int m_un, .ref b_k, .int m_kc, .int m_kn, .int m_by, .int m_kd, .int m_tg, .int m_ju])), (b_row, .inl (tc 0, 2400, .inl u))])) A) ([.ref b_x, .int x0, .int x1, .int x2, .int x3]).toArray s 0 0 A) (F0 m 3 ls []) := by
    intro n_3
    induction n_3 with
    | zero =>
      intro k_3 m_rowL H locs ls hq hm
      exact absurd hm (Nat.not_lt_zero _)
    | succ n_3 ih_3 =>
      intro k_3 m_rowL H locs ls hq hm_3 hX_3 hP hD hS hl
      refine lv_iload hx hb d_M_fix_3 (lv_at hl 0 rfl) ?_
      refine lv_iload_n hx hb d_M_fix_5 rfl (lv_at hl 4 rfl) ?_
      refine lv_icmp_ge (tgt := 36) hx hb d_M_fix_6 (by decide) (fun c_6 => ?_) (fun c_6 => ?_)
      · skip
        rw [mF_StepMachineModel_fix_L3, if_pos c_6] at hX_3
        exact hX_3 _ _ ls hq hP hD hS (lv_sub hl [0, 1, 2, 3, 4, 5] rfl)
      · skip
        refine lv_aload_n hx hb d_M_fix_9 rfl (lv_at hl 1 rfl) ?_
        refine va_get (D := D) (ci := 9) (v := .ref b_row) (C := "StepMachineModel") (T := TX9) (N := 29) hx hb hts inU_9 hown hK hP 0 rfl rfl 0 (by decide) (hts _ a_633) (fun _ h9 => h9) rfl d_M_fix_10 ?_
        refine lv_bipush (v := 32) hx hb d_M_fix_13 (by decide) ?_
        refine lv_iload_n hx hb d_M_fix_15 rfl (lv_at hl 2 rfl) ?_
        refine lv_imul hx hb d_M_fix_16 ?_
        refine lv_iload_n hx hb d_M_fix_17 rfl (lv_at hl 3 rfl) ?_
        refine lv_iadd hx hb d_M_fix_18 ?_
        refine lv_iload hx hb d_M_fix_19 (lv_at hl 0 rfl) ?_
        refine lv_iadd hx hb d_M_fix_21 ?_
        refine lv_iload hx hb d_M_fix_22 (lv_at hl 5 rfl) ?_
        refine lv_iload hx hb d_M_fix_24 (lv_at hl 0 rfl) ?_
        refine lv_ishr hx hb d_M_fix_26 ?_
        refine lv_iconst (v := 1) hx hb d_M_fix_27 (by decide) ?_
        refine lv_iand hx hb d_M_fix_28 ?_
        refine va_iast hx hb hK hP hD hS 1 0 rfl rfl (ob_fix hk hlo hhi c_6 hq) d_M_fix_29 (fun H locs hP hD hS => ?_)
        have hP : va_P D vwCl [(b_x, .inr (9, [.ref b_row, .ref b_part, .ref b_mem, .ref b_mrk, .ref b_sf, .ref b_ss, .ref b_sr, .int m_on, .ref b_h, .int m_hc, .ref b_r, .int m_pc, .ref b_in, .int m_giv, .int m_tak, .ref b_out, .int m_put, .int m_st, .int m_cu, .int m_va, .int m_sp, .int m_un, .ref b_k, .int m_kc, .int m_kn, .int m_by, .int m_kd, .int m_tg, .int m_ju])), (b_row, .inl (tc 0, 2400, .inl (upd m_rowL (((32 * x0) + x1) + k_3).toNatClampNeg ((x3 >>> (k_3 &&& 31)) &&& 1))))] H := hP
        have hD : va_D A [(b_x, .inr (9, [.ref b_row, .ref b_part, .ref b_mem, .ref b_mrk, .ref b_sf, .ref b_ss, .ref b_sr, .int m_on, .ref b_h, .int m_hc, .ref b_r, .int m_pc, .ref b_in, .int m_giv, .int m_tak, .ref b_out, .int m_put, .int m_st, .int m_cu, .int m_va, .int m_sp, .int m_un, .ref b_k, .int m_kc, .int m_kn, .int m_by, .int m_kd, .int m_tg, .int m_ju])), (b_row, .inl (tc 0, 2400, .inl (upd m_rowL (((32 * x0) + x1) + k_3).toNatClampNeg ((x3 >>> (k_3 &&& 31)) &&& 1))))] := hD
        refine lv_iinc (v := (k_3 + 1)) (lv' := [(5, .int (k_3 + 1)), (0, .ref b_x), (1, .int x0), (2, .int x1), (3, .int x2), (4, .int x3)]) hx hb d_M_fix_30 hl (k := 0) rfl rfl (by decide) rfl (fun ls hl => ?_)
        refine lv_goto (tgt := 3) hx hb d_M_fix_33 (by decide) ?_
        exact ih_3 (k_3 + 1) (upd m_rowL (((32 * x0) + x1) + k_3).toNatClampNeg ((x3 >>> (k_3 &&& 31)) &&& 1)) _ _ ls (st_nn c_6 hq) (ms_step c_6 hm_3) (by have h := hX_3; rw [mF_StepMachineModel_fix_L3, if_neg c_6] at h; exact h) hP hD hS (lv_sub hl [0, 1, 2, 3, 4, 5] rfl)
  obtain ⟨q_3, e_3⟩ : ∃ z, z = (mF_StepMachineModel_fix_L3 x0 x1 x2 x3 ((x2.toInt - (0 : Int32).toInt).toNat + 1) (0 : Int32) m_row) := ⟨_, rfl⟩
  refine loop_3 ((x2.toInt - (0 : Int32).toInt).toNat + 1) (0 : Int32) m_row _ _ ls (by decide) (Nat.lt_succ_self _) ?_ hP hD hS (lv_sub hl [0, 1, 2, 3, 4, 5] rfl)
  rw [← e_3]
  intro H locs ls hq hP hD hS hl
  have hP : va_P D vwCl [(b_x, .inr (9, [.ref b_row, .ref b_part, .ref b_mem, .ref b_mrk, .ref b_sf, .ref b_ss, .ref b_sr, .int m_on, .ref b_h, .int m_hc, .ref b_r, .int m_pc, .ref b_in, .int m_giv, .int m_tak, .ref b_out, .int m_put, .int m_st, .int m_cu, .int m_va, .int m_sp, .int m_un, .ref b_k, .int m_kc, .int m_kn, .int m_by, .int m_kd, .int m_tg, .int m_ju])), (b_row, .inl (tc 0, 2400, .inl q_3.2))] H := hP
  have hD : va_D A [(b_x, .inr (9, [.ref b_row, .ref b_part, .ref b_mem, .ref b_mrk, .ref b_sf, .ref b_ss, .ref b_sr, .int m_on, .ref b_h, .int m_hc, .ref b_r, .int m_pc, .ref b_in, .int m_giv, .int m_tak, .ref b_out, .int m_put, .int m_st, .int m_cu, .int m_va, .int m_sp, .int m_un, .ref b_k, .int m_kc, .int m_kn, .int m_by, .int m_kd, .int m_tg, .int m_ju])), (b_row, .inl (tc 0, 2400, .inl q_3.2))] := hD
  have hl : lv_has ls 6 [(5, .int q_3.1), (0, .ref b_x), (1, .int x0), (2, .int x1), (3, .int x2), (4, .int x3)] := hl
  exact W.vret hx hb hr (fun t ht hW => ⟨⟨q_3.2, rfl, by rw [mF_StepMachineModel_fix, ← e_3, mF_StepMachineModel_fix_1], by rw [ht]; exact hP, va_K.moved hW.alike hK, hD⟩, hS.F ht⟩) hS.2.2 d_M_fix_36
def mF_StepMachineModel_one (m_row : Nat → Int32) (x0 : Int32) (x1 : Int32) (x2 : Int32) : (Nat → Int32) := (upd m_row ((32 * x0) + x1).toNatClampNeg (400 + x2))
set_option maxHeartbeats 4000000 in
set_option maxRecDepth 100000 in
theorem mc_StepMachineModel_one (l : Launch) (D : va_G) (tc : Nat → ClassId) (tb : Nat → Nat) (z0 : Nat) (sz : Nat) (b_x b_row b_part b_mem b_mrk b_sf b_ss b_sr b_h b_r b_in b_out b_k : Nat) (m_on : Int32) (m_hc : Int32) (m_pc : Int32) (m_giv : Int32) (m_tak : Int32) (m_put : Int32) (m_st : Int32) (m_cu : Int32) (m_va : Int32) (m_sp : Int32) (m_un : Int32) (m_kc : Int32) (m_kn : Int32) (m_by : Int32) (m_kd : Int32) (m_tg : Int32) (m_ju : Int32) (m_row : Nat → Int32) (x0 : Int32) (x1 : Int32) (x2 : Int32) (hk : 0 ≤ x0.toInt ∧ x0.toInt < 75) (hb0 : 0 ≤ x1.toInt ∧ x1.toInt < 32) : Met l y_M_one (wM y_M_one b_M_one 4 none) ({ frames := 0, cells := 0, slots := 0, locals := 0 }) (va_Pc [.ref b_x, .int x0, .int x1, .int x2] (Pw D tc tb z0 [(b_x, .inr (9, [.ref b_row, .ref b_part, .ref b_mem, .ref b_mrk, .ref b_sf, .ref b_ss, .ref b_sr, .int m_on, .ref b_h, .int m_hc, .ref b_r, .int m_pc, .ref b_in, .int m_giv, .int m_tak, .ref b_out, .int m_put, .int m_st, .int m_cu, .int m_va, .int m_sp, .int m_un, .ref b_k, .int m_kc, .int m_kn, .int m_by, .int m_kd, .int m_tg, .int m_ju])), (b_row, .inl (tc 0, 2400, .inl m_row))] sz)) (va_Qv (fun u : (Nat → Int32) => u = (mF_StepMachineModel_one m_row x0 x1 x2)) (Bw D tc (va_A [(b_x, .inr (9, [.ref b_row, .ref b_part, .ref b_mem, .ref b_mrk, .ref b_sf, .ref b_ss, .ref b_sr, .int m_on, .ref b_h, .int m_hc, .ref b_r, .int m_pc, .ref b_in, .int m_giv, .int m_tak, .ref b_out, .int m_put, .int m_st, .int m_cu, .int m_va, .int m_sp, .int m_un, .ref b_k, .int m_kc, .int m_kn, .int m_by, .int m_kd, .int m_tg, .int m_ju])), (b_row, .inl (tc 0, 2400, .inl m_row))] sz) (fun u => [(b_x, .inr (9, [.ref b_row, .ref b_part, .ref b_mem, .ref b_mrk, .ref b_sf, .ref b_ss, .ref b_sr, .int m_on, .ref b_h, .int m_hc, .ref b_r, .int m_pc, .ref b_in, .int m_giv, .int m_tak, .ref b_out, .int m_put, .int m_st, .int m_cu, .int m_va, .int m_sp, .int m_un, .ref b_k, .int m_kc, .int m_kn, .int m_by, .int m_kd, .int m_tg, .int m_ju])), (b_row, .inl (tc 0, 2400, .inl u))])) (va_A [(b_x, .inr (9, [.ref b_row, .ref b_part, .ref b_mem, .ref b_mrk, .ref b_sf, .ref b_ss, .ref b_sr, .int m_on, .ref b_h, .int m_hc, .ref b_r, .int m_pc, .ref b_in, .int m_giv, .int m_tak, .ref b_out, .int m_put, .int m_st, .int m_cu, .int m_va, .int m_sp, .int m_un, .ref b_k, .int m_kc, .int m_kn, .int m_by, .int m_kd, .int m_tg, .int m_ju])), (b_row, .inl (tc 0, 2400, .inl m_row))] sz)) 0 0 (va_A [(b_x, .inr (9, [.ref b_row, .ref b_part, .ref b_mem, .ref b_mrk, .ref b_sf, .ref b_ss, .ref b_sr, .int m_on, .ref b_h, .int m_hc, .ref b_r, .int m_pc, .ref b_in, .int m_giv, .int m_tak, .ref b_out, .int m_put, .int m_st, .int m_cu, .int m_va, .int m_sp, .int m_un, .ref b_k, .int m_kc, .int m_kn, .int m_by, .int m_kd, .int m_tg, .int m_ju])), (b_row, .inl (tc 0, 2400, .inl m_row))] sz) := by
  refine Met.ofW (cc := b_M_one) (maxL := 4) (ret := none) (by decide) rfl ?_
  intro p e s m args below meth c s₁ B hml hv
  obtain ⟨rfl, hsz, hP, hK, hB, hD0, hZ0⟩ := hv
  have hx := B.exec
  have hb := B.bytes
  have hr := B.returns
  have hts : ∀ w ∈ wALL, w.before _ s = true := fun w h => atoms_spec (ws := (wM y_M_one b_M_one 4 none)) B.pre w (List.mem_cons_of_mem _ h)
  have hown : s.vm.findClass "StepMachineModel" = some m.cls := findClass_of_methodNamed B.named
  have hlocks := B.notSynchronized
  subst hsz
  have hD := hD0.self (sz := s.heap.size)
  generalize hAe : va_A [(b_x, .inr (9, [.ref b_row, .ref b_part, .ref b_mem, .ref b_mrk, .ref b_sf, .ref b_ss, .ref b_sr, .int m_on, .ref b_h, .int m_hc, .ref b_r, .int m_pc, .ref b_in, .int m_giv, .int m_tak, .ref b_out, .int m_put, .int m_st, .int m_cu, .int m_va, .int m_sp, .int m_un, .ref b_k, .int m_kc, .int m_kn, .int m_by, .int m_kd, .int m_tg, .int m_ju])), (b_row, .inl (tc 0, 2400, .inl m_row))] s.heap.size = A at hD ⊢
  have hZ : ∀ q : Nat, A q → z0 ≤ q := by rw [← hAe]; exact hZ0
  have hA : ∀ q : Nat, s.heap.size ≤ q → A q := fun q h => by rw [← hAe]; exact Or.inr h
  have hS : va_S A s.heap s.heap [] := va_S.rf
  have hl := lv_entry ([.ref b_x, .int x0, .int x1, .int x2]) (n := 4) (Nat.le_of_ble_eq_true rfl)
  rw [lg_entry_eq]
  generalize (lg_sl ([.ref b_x, .int x0, .int x1, .int x2]) ++ List.replicate (4 - (lg_sl ([.ref b_x, .int x0, .int x1, .int x2])).length) Slot.unset).toArray = ls at hl ⊢
  have hl : lv_has ls 4 [(0, .ref b_x), (1, .int x0), (2, .int x1), (3, .int x2)] := hl
  refine lv_aload_n hx hb d_M_one_0 rfl (lv_at hl 0 rfl) ?_
  refine va_get (D := D) (ci := 9) (v := .ref b_row) (C := "StepMachineModel") (T := TX9) (N := 29) hx hb hts inU_9 hown hK hP 0 rfl rfl 0 (by decide) (hts _ a_633) (fun _ h9 => h9) rfl d_M_one_1 ?_
  refine lv_bipush (v := 32) hx hb d_M_one_4 (by decide) ?_
  refine lv_iload_n hx hb d_M_one_6 rfl (lv_at hl 1 rfl) ?_
  refine lv_imul hx hb d_M_one_7 ?_
  refine lv_iload_n hx hb d_M_one_8 rfl (lv_at hl 2 rfl) ?_
  refine lv_iadd hx hb d_M_one_9 ?_
  refine lv_sipush (v := 400) hx hb d_M_one_10 (by decide) ?_
  refine lv_iload_n hx hb d_M_one_13 rfl (lv_at hl 3 rfl) ?_
  refine lv_iadd hx hb d_M_one_14 ?_
  refine va_iast hx hb hK hP hD hS 1 0 rfl rfl (ob_one hk hb0) d_M_one_15 (fun H locs hP hD hS => ?_)
  have hP : va_P D vwCl [(b_x, .inr (9, [.ref b_row, .ref b_part, .ref b_mem, .ref b_mrk, .ref b_sf, .ref b_ss, .ref b_sr, .int m_on, .ref b_h, .int m_hc, .ref b_r, .int m_pc, .ref b_in, .int m_giv, .int m_tak, .ref b_out, .int m_put, .int m_st, .int m_cu, .int m_va, .int m_sp, .int m_un, .ref b_k, .int m_kc, .int m_kn, .int m_by, .int m_kd, .int m_tg, .int m_ju])), (b_row, .inl (tc 0, 2400, .inl (upd m_row ((32 * x0) + x1).toNatClampNeg (400 + x2))))] H := hP
  have hD : va_D A [(b_x, .inr (9, [.ref b_row, .ref b_part, .ref b_mem, .ref b_mrk, .ref b_sf, .ref b_ss, .ref b_sr, .int m_on, .ref b_h, .int m_hc, .ref b_r, .int m_pc, .ref b_in, .int m_giv, .int m_tak, .ref b_out, .int m_put, .int m_st, .int m_cu, .int m_va, .int m_sp, .int m_un, .ref b_k, .int m_kc, .int m_kn, .int m_by, .int m_kd, .int m_tg, .int m_ju])), (b_row, .inl (tc 0, 2400, .inl (upd m_row ((32 * x0) + x1).toNatClampNeg (400 + x2))))] := hD
  exact W.vret hx hb hr (fun t ht hW => ⟨⟨(upd m_row ((32 * x0) + x1).toNatClampNeg (400 + x2)), rfl, by rw [mF_StepMachineModel_one], by rw [ht]; exact hP, va_K.moved hW.alike hK, hD⟩, hS.F ht⟩) hS.2.2 d_M_one_16
def mF_StepMachineModel_ends_2  (q_14 : (Nat → Int32)) : (Nat → Int32) := q_14
def mF_StepMachineModel_ends_1 (x0 : Int32) (x2 : Int32) (q_6 : (Nat → Int32)) : (Nat → Int32) := (mF_StepMachineModel_ends_2 (mF_StepMachineModel_fix q_6 x0 0 2 x2))
def mF_StepMachineModel_ends (m_row : Nat → Int32) (x0 : Int32) (x1 : Int32) (x2 : Int32) : (Nat → Int32) := (mF_StepMachineModel_ends_1 x0 x2 (mF_StepMachineModel_fix m_row x0 13 3 x1))
set_option maxHeartbeats 4000000 in
set_option maxRecDepth 100000 in
theorem mc_StepMachineModel_ends (l : Launch) (D : va_G) (tc : Nat → ClassId) (tb : Nat → Nat) (z0 : Nat) (sz : Nat) (b_x b_row b_part b_mem b_mrk b_sf b_ss b_sr b_h b_r b_in b_out b_k : Nat) (m_on : Int32) (m_hc : Int32) (m_pc : Int32) (m_giv : Int32) (m_tak : Int32) (m_put : Int32) (m_st : Int32) (m_cu : Int32) (m_va : Int32) (m_sp : Int32) (m_un : Int32) (m_kc : Int32) (m_kn : Int32) (m_by : Int32) (m_kd : Int32) (m_tg : Int32) (m_ju : Int32) (m_row : Nat → Int32) (x0 : Int32) (x1 : Int32) (x2 : Int32) (hk : 0 ≤ x0.toInt ∧ x0.toInt < 75) : Met l y_M_ends (wM y_M_ends b_M_ends 4 none) ({ frames := 1, cells := 0, slots := 0, locals := 25 }) (va_Pc [.ref b_x, .int x0, .int x1, .int x2] (Pw D tc tb z0 [(b_x, .inr (9, [.ref b_row, .ref b_part, .ref b_mem, .ref b_mrk, .ref b_sf, .ref b_ss, .ref b_sr, .int m_on, .ref b_h, .int m_hc, .ref b_r, .int m_pc, .ref b_in, .int m_giv, .int m_tak, .ref b_out, .int m_put, .int m_st, .int m_cu, .int m_va, .int m_sp, .int m_un, .ref b_k, .int m_kc, .int m_kn, .int m_by, .int m_kd, .int m_tg, .int m_ju])), (b_row, .inl (tc 0, 2400, .inl m_row))] sz)) (va_Qv (fun u : (Nat → Int32) => u = (mF_StepMachineModel_ends m_row x0 x1 x2)) (Bw D tc (va_A [(b_x, .inr (9, [.ref b_row, .ref b_part, .ref b_mem, .ref b_mrk, .ref b_sf, .ref b_ss, .ref b_sr, .int m_on, .ref b_h, .int m_hc, .ref b_r, .int m_pc, .ref b_in, .int m_giv, .int m_tak, .ref b_out, .int m_put, .int m_st, .int m_cu, .int m_va, .int m_sp, .int m_un, .ref b_k, .int m_kc, .int m_kn, .int m_by, .int m_kd, .int m_tg, .int m_ju])), (b_row, .inl (tc 0, 2400, .inl m_row))] sz) (fun u => [(b_x, .inr (9, [.ref b_row, .ref b_part, .ref b_mem, .ref b_mrk, .ref b_sf, .ref b_ss, .ref b_sr, .int m_on, .ref b_h, .int m_hc, .ref b_r, .int m_pc, .ref b_in, .int m_giv, .int m_tak, .ref b_out, .int m_put, .int m_st, .int m_cu, .int m_va, .int m_sp, .int m_un, .ref b_k, .int m_kc, .int m_kn, .int m_by, .int m_kd, .int m_tg, .int m_ju])), (b_row, .inl (tc 0, 2400, .inl u))])) (va_A [(b_x, .inr (9, [.ref b_row, .ref b_part, .ref b_mem, .ref b_mrk, .ref b_sf, .ref b_ss, .ref b_sr, .int m_on, .ref b_h, .int m_hc, .ref b_r, .int m_pc, .ref b_in, .int m_giv, .int m_tak, .ref b_out, .int m_put, .int m_st, .int m_cu, .int m_va, .int m_sp, .int m_un, .ref b_k, .int m_kc, .int m_kn, .int m_by, .int m_kd, .int m_tg, .int m_ju])), (b_row, .inl (tc 0, 2400, .inl m_row))] sz)) 0 0 (va_A [(b_x, .inr (9, [.ref b_row, .ref b_part, .ref b_mem, .ref b_mrk, .ref b_sf, .ref b_ss, .ref b_sr, .int m_on, .ref b_h, .int m_hc, .ref b_r, .int m_pc, .ref b_in, .int m_giv, .int m_tak, .ref b_out, .int m_put, .int m_st, .int m_cu, .int m_va, .int m_sp, .int m_un, .ref b_k, .int m_kc, .int m_kn, .int m_by, .int m_kd, .int m_tg, .int m_ju])), (b_row, .inl (tc 0, 2400, .inl m_row))] sz) := by
  refine Met.ofW (cc := b_M_ends) (maxL := 4) (ret := none) (by decide) rfl ?_
  intro p e s m args below meth c s₁ B hml hv
  obtain ⟨rfl, hsz, hP, hK, hB, hD0, hZ0⟩ := hv
  have hx := B.exec
  have hb := B.bytes
  have hr := B.returns
  have hts : ∀ w ∈ wALL, w.before _ s = true := fun w h => atoms_spec (ws := (wM y_M_ends b_M_ends 4 none)) B.pre w (List.mem_cons_of_mem _ h)
  have hown : s.vm.findClass "StepMachineModel" = some m.cls := findClass_of_methodNamed B.named
  have hlocks := B.notSynchronized
  subst hsz
  have hD := hD0.self (sz := s.heap.size)
  generalize hAe : va_A [(b_x, .inr (9, [.ref b_row, .ref b_part, .ref b_mem, .ref b_mrk, .ref b_sf, .ref b_ss, .ref b_sr, .int m_on, .ref b_h, .int m_hc, .ref b_r, .int m_pc, .ref b_in, .int m_giv, .int m_tak, .ref b_out, .int m_put, .int m_st, .int m_cu, .int m_va, .int m_sp, .int m_un, .ref b_k, .int m_kc, .int m_kn, .int m_by, .int m_kd, .int m_tg, .int m_ju])), (b_row, .inl (tc 0, 2400, .inl m_row))] s.heap.size = A at hD ⊢
  have hZ : ∀ q : Nat, A q → z0 ≤ q := by rw [← hAe]; exact hZ0
  have hA : ∀ q : Nat, s.heap.size ≤ q → A q := fun q h => by rw [← hAe]; exact Or.inr h
  have hS : va_S A s.heap s.heap [] := va_S.rf
  have hl := lv_entry ([.ref b_x, .int x0, .int x1, .int x2]) (n := 4) (Nat.le_of_ble_eq_true rfl)
  rw [lg_entry_eq]
  generalize (lg_sl ([.ref b_x, .int x0, .int x1, .int x2]) ++ List.replicate (4 - (lg_sl ([.ref b_x, .int x0, .int x1, .int x2])).length) Slot.unset).toArray = ls at hl ⊢
  have hl : lv_has ls 4 [(0, .ref b_x), (1, .int x0), (2, .int x1), (3, .int x2)] := hl
  refine lv_aload_n hx hb d_M_ends_0 rfl (lv_at hl 0 rfl) ?_
  refine lv_iload_n hx hb d_M_ends_1 rfl (lv_at hl 1 rfl) ?_
  refine lv_bipush (v := 13) hx hb d_M_ends_2 (by decide) ?_
  refine lv_iconst (v := 3) hx hb d_M_ends_4 (by decide) ?_
  refine lv_iload_n hx hb d_M_ends_5 rfl (lv_at hl 2 rfl) ?_
  obtain ⟨q_6, e_6⟩ : ∃ z, z = (mF_StepMachineModel_fix m_row x0 13 3 x1) := ⟨_, rfl⟩
  refine wVv (As := [.int x0, .int 13, .int 3, .int x1]) (rest := []) e_6 ⟨hx, hb, hml, hown, hts⟩ (mc_StepMachineModel_fix l D tc tb z0 _ b_x b_row b_part b_mem b_mrk b_sf b_ss b_sr b_h b_r b_in b_out b_k m_on m_hc m_pc m_giv m_tak m_put m_st m_cu m_va m_sp m_un m_kc m_kn m_by m_kd m_tg m_ju m_row x0 13 3 x1 hk (by decide) (by decide)) (cwV 4 hts (goodV a_597 a_598 a_911 a_10 a_599) rfl rfl rfl hv_M_fix ⟨Nat.le_of_ble_eq_true rfl, Nat.le_of_ble_eq_true rfl⟩) hP hD hS hA hZ hK hB [0, 1] rfl (by decide) (fun _ => rfl) rfl rfl rfl hl.1 rfl (Nat.le_of_ble_eq_true rfl) d_M_ends_6 ⟨Nat.zero_le _, Nat.zero_le _⟩ (fun H locs hP hD hS => ?_)
  have hP : va_P D vwCl [(b_x, .inr (9, [.ref b_row, .ref b_part, .ref b_mem, .ref b_mrk, .ref b_sf, .ref b_ss, .ref b_sr, .int m_on, .ref b_h, .int m_hc, .ref b_r, .int m_pc, .ref b_in, .int m_giv, .int m_tak, .ref b_out, .int m_put, .int m_st, .int m_cu, .int m_va, .int m_sp, .int m_un, .ref b_k, .int m_kc, .int m_kn, .int m_by, .int m_kd, .int m_tg, .int m_ju])), (b_row, .inl (tc 0, 2400, .inl q_6))] H := hP
  have hD : va_D A [(b_x, .inr (9, [.ref b_row, .ref b_part, .ref b_mem, .ref b_mrk, .ref b_sf, .ref b_ss, .ref b_sr, .int m_on, .ref b_h, .int m_hc, .ref b_r, .int m_pc, .ref b_in, .int m_giv, .int m_tak, .ref b_out, .int m_put, .int m_st, .int m_cu, .int m_va, .int m_sp, .int m_un, .ref b_k, .int m_kc, .int m_kn, .int m_by, .int m_kd, .int m_tg, .int m_ju])), (b_row, .inl (tc 0, 2400, .inl q_6))] := hD
  refine lv_aload_n hx hb d_M_ends_9 rfl (lv_at hl 0 rfl) ?_
  refine lv_iload_n hx hb d_M_ends_10 rfl (lv_at hl 1 rfl) ?_
  refine lv_iconst (v := 0) hx hb d_M_ends_11 (by decide) ?_
  refine lv_iconst (v := 2) hx hb d_M_ends_12 (by decide) ?_
  refine lv_iload_n hx hb d_M_ends_13 rfl (lv_at hl 3 rfl) ?_
  obtain ⟨q_14, e_14⟩ : ∃ z, z = (mF_StepMachineModel_fix q_6 x0 0 2 x2) := ⟨_, rfl⟩
  refine wVv (As := [.int x0, .int 0, .int 2, .int x2]) (rest := []) e_14 ⟨hx, hb, hml, hown, hts⟩ (mc_StepMachineModel_fix l D tc tb z0 _ b_x b_row b_part b_mem b_mrk b_sf b_ss b_sr b_h b_r b_in b_out b_k m_on m_hc m_pc m_giv m_tak m_put m_st m_cu m_va m_sp m_un m_kc m_kn m_by m_kd m_tg m_ju q_6 x0 0 2 x2 hk (by decide) (by decide)) (cwV 4 hts (goodV a_597 a_598 a_911 a_10 a_599) rfl rfl rfl hv_M_fix ⟨Nat.le_of_ble_eq_true rfl, Nat.le_of_ble_eq_true rfl⟩) hP hD hS hA hZ hK hB [0, 1] rfl (by decide) (fun _ => rfl) rfl rfl rfl hl.1 rfl (Nat.le_of_ble_eq_true rfl) d_M_ends_14 ⟨Nat.zero_le _, Nat.zero_le _⟩ (fun H locs hP hD hS => ?_)
  have hP : va_P D vwCl [(b_x, .inr (9, [.ref b_row, .ref b_part, .ref b_mem, .ref b_mrk, .ref b_sf, .ref b_ss, .ref b_sr, .int m_on, .ref b_h, .int m_hc, .ref b_r, .int m_pc, .ref b_in, .int m_giv, .int m_tak, .ref b_out, .int m_put, .int m_st, .int m_cu, .int m_va, .int m_sp, .int m_un, .ref b_k, .int m_kc, .int m_kn, .int m_by, .int m_kd, .int m_tg, .int m_ju])), (b_row, .inl (tc 0, 2400, .inl q_14))] H := hP
  have hD : va_D A [(b_x, .inr (9, [.ref b_row, .ref b_part, .ref b_mem, .ref b_mrk, .ref b_sf, .ref b_ss, .ref b_sr, .int m_on, .ref b_h, .int m_hc, .ref b_r, .int m_pc, .ref b_in, .int m_giv, .int m_tak, .ref b_out, .int m_put, .int m_st, .int m_cu, .int m_va, .int m_sp, .int m_un, .ref b_k, .int m_kc, .int m_kn, .int m_by, .int m_kd, .int m_tg, .int m_ju])), (b_row, .inl (tc 0, 2400, .inl q_14))] := hD
  exact W.vret hx hb hr (fun t ht hW => ⟨⟨q_14, rfl, by rw [mF_StepMachineModel_ends, ← e_6, mF_StepMachineModel_ends_1, ← e_14, mF_StepMachineModel_ends_2], by rw [ht]; exact hP, va_K.moved hW.alike hK, hD⟩, hS.F ht⟩) hS.2.2 d_M_ends_17
def mF_StepMachineModel_layJump_9  (q_80 : (Nat → Int32)) : (Nat → Int32) := q_80
def mF_StepMachineModel_layJump_8 (x0 : Int32) (q_73 : (Nat → Int32)) : (Nat → Int32) := (mF_StepMachineModel_layJump_9 (mF_StepMachineModel_one q_73 x0 2 5))
def mF_StepMachineModel_layJump_7 (x0 : Int32) (q_62 : (Nat → Int32)) : (Nat → Int32) := (mF_StepMachineModel_layJump_8 x0 (mF_StepMachineModel_lay q_62 x0 5 3 400 3))
def mF_StepMachineModel_layJump_6 (x0 : Int32) (q_53 : (Nat → Int32)) : (Nat → Int32) := (mF_StepMachineModel_layJump_7 x0 (mF_StepMachineModel_one q_53 x0 6 7))
def mF_StepMachineModel_layJump_5 (x0 : Int32) (q_44 : (Nat → Int32)) : (Nat → Int32) := (mF_StepMachineModel_layJump_6 x0 (mF_StepMachineModel_one q_44 x0 7 6))
def mF_StepMachineModel_layJump_4 (x0 : Int32) (q_35 : (Nat → Int32)) : (Nat → Int32) := (mF_StepMachineModel_layJump_5 x0 (mF_StepMachineModel_one q_35 x0 8 10))
def mF_StepMachineModel_layJump_3 (x0 : Int32) (q_21 : (Nat → Int32)) : (Nat → Int32) := (mF_StepMachineModel_layJump_4 x0 (mF_StepMachineModel_lay q_21 x0 10 9 400 9))
def mF_StepMachineModel_layJump_2 (x0 : Int32) (q_13 : (Nat → Int32)) : (Nat → Int32) := (mF_StepMachineModel_layJump_3 x0 (mF_StepMachineModel_one q_13 x0 11 4))
def mF_StepMachineModel_layJump_1 (x0 : Int32) (q_4 : (Nat → Int32)) : (Nat → Int32) := (mF_StepMachineModel_layJump_2 x0 (mF_StepMachineModel_one q_4 x0 12 11))
def mF_StepMachineModel_layJump (m_row : Nat → Int32) (x0 : Int32) (x1 : Int32) : (Nat → Int32) := (mF_StepMachineModel_layJump_1 x0 (mF_StepMachineModel_ends m_row x0 x1 1))
set_option maxHeartbeats 4000000 in
set_option maxRecDepth 100000 in
theorem mc_StepMachineModel_layJump (l : Launch) (D : va_G) (tc : Nat → ClassId) (tb : Nat → Nat) (z0 : Nat) (sz : Nat) (b_x b_row b_part b_mem b_mrk b_sf b_ss b_sr b_h b_r b_in b_out b_k : Nat) (m_on : Int32) (m_hc : Int32) (m_pc : Int32) (m_giv : Int32) (m_tak : Int32) (m_put : Int32) (m_st : Int32) (m_cu : Int32) (m_va : Int32) (m_sp : Int32) (m_un : Int32) (m_kc : Int32) (m_kn : Int32) (m_by : Int32) (m_kd : Int32) (m_tg : Int32) (m_ju : Int32) (m_row : Nat → Int32) (x0 : Int32) (x1 : Int32) (hk : 0 ≤ x0.toInt ∧ x0.toInt < 75) : Met l y_M_layJump (wM y_M_layJump b_M_layJump 3 none) ({ frames := 2, cells := 0, slots := 0, locals := 48 }) (va_Pc [.ref b_x, .int x0, .int x1] (Pw D tc tb z0 [(b_x, .inr (9, [.ref b_row, .ref b_part, .ref b_mem, .ref b_mrk, .ref b_sf, .ref b_ss, .ref b_sr, .int m_on, .ref b_h, .int m_hc, .ref b_r, .int m_pc, .ref b_in, .int m_giv, .int m_tak, .ref b_out, .int m_put, .int m_st, .int m_cu, .int m_va, .int m_sp, .int m_un, .ref b_k, .int m_kc, .int m_kn, .int m_by, .int m_kd, .int m_tg, .int m_ju])), (b_row, .inl (tc 0, 2400, .inl m_row))] sz)) (va_Qv (fun u : (Nat → Int32) => u = (mF_StepMachineModel_layJump m_row x0 x1)) (Bw D tc (va_A [(b_x, .inr (9, [.ref b_row, .ref b_part, .ref b_mem, .ref b_mrk, .ref b_sf, .ref b_ss, .ref b_sr, .int m_on, .ref b_h, .int m_hc, .ref b_r, .int m_pc, .ref b_in, .int m_giv, .int m_tak, .ref b_out, .int m_put, .int m_st, .int m_cu, .int m_va, .int m_sp, .int m_un, .ref b_k, .int m_kc, .int m_kn, .int m_by, .int m_kd, .int m_tg, .int m_ju])), (b_row, .inl (tc 0, 2400, .inl m_row))] sz) (fun u => [(b_x, .inr (9, [.ref b_row, .ref b_part, .ref b_mem, .ref b_mrk, .ref b_sf, .ref b_ss, .ref b_sr, .int m_on, .ref b_h, .int m_hc, .ref b_r, .int m_pc, .ref b_in, .int m_giv, .int m_tak, .ref b_out, .int m_put, .int m_st, .int m_cu, .int m_va, .int m_sp, .int m_un, .ref b_k, .int m_kc, .int m_kn, .int m_by, .int m_kd, .int m_tg, .int m_ju])), (b_row, .inl (tc 0, 2400, .inl u))])) (va_A [(b_x, .inr (9, [.ref b_row, .ref b_part, .ref b_mem, .ref b_mrk, .ref b_sf, .ref b_ss, .ref b_sr, .int m_on, .ref b_h, .int m_hc, .ref b_r, .int m_pc, .ref b_in, .int m_giv, .int m_tak, .ref b_out, .int m_put, .int m_st, .int m_cu, .int m_va, .int m_sp, .int m_un, .ref b_k, .int m_kc, .int m_kn, .int m_by, .int m_kd, .int m_tg, .int m_ju])), (b_row, .inl (tc 0, 2400, .inl m_row))] sz)) 0 0 (va_A [(b_x, .inr (9, [.ref b_row, .ref b_part, .ref b_mem, .ref b_mrk, .ref b_sf, .ref b_ss, .ref b_sr, .int m_on, .ref b_h, .int m_hc, .ref b_r, .int m_pc, .ref b_in, .int m_giv, .int m_tak, .ref b_out, .int m_put, .int m_st, .int m_cu, .int m_va, .int m_sp, .int m_un, .ref b_k, .int m_kc, .int m_kn, .int m_by, .int m_kd, .int m_tg, .int m_ju])), (b_row, .inl (tc 0, 2400, .inl m_row))] sz) := by
  refine Met.ofW (cc := b_M_layJump) (maxL := 3) (ret := none) (by decide) rfl ?_
  intro p e s m args below meth c s₁ B hml hv
  obtain ⟨rfl, hsz, hP, hK, hB, hD0, hZ0⟩ := hv
  have hx := B.exec
  have hb := B.bytes
  have hr := B.returns
  have hts : ∀ w ∈ wALL, w.before _ s = true := fun w h => atoms_spec (ws := (wM y_M_layJump b_M_layJump 3 none)) B.pre w (List.mem_cons_of_mem _ h)
  have hown : s.vm.findClass "StepMachineModel" = some m.cls := findClass_of_methodNamed B.named
  have hlocks := B.notSynchronized
  subst hsz
  have hD := hD0.self (sz := s.heap.size)
  generalize hAe : va_A [(b_x, .inr (9, [.ref b_row, .ref b_part, .ref b_mem, .ref b_mrk, .ref b_sf, .ref b_ss, .ref b_sr, .int m_on, .ref b_h, .int m_hc, .ref b_r, .int m_pc, .ref b_in, .int m_giv, .int m_tak, .ref b_out, .int m_put, .int m_st, .int m_cu, .int m_va, .int m_sp, .int m_un, .ref b_k, .int m_kc, .int m_kn, .int m_by, .int m_kd, .int m_tg, .int m_ju])), (b_row, .inl (tc 0, 2400, .inl m_row))] s.heap.size = A at hD ⊢
  have hZ : ∀ q : Nat, A q → z0 ≤ q := by rw [← hAe]; exact hZ0
  have hA : ∀ q : Nat, s.heap.size ≤ q → A q := fun q h => by rw [← hAe]; exact Or.inr h
  have hS : va_S A s.heap s.heap [] := va_S.rf
  have hl := lv_entry ([.ref b_x, .int x0, .int x1]) (n := 3) (Nat.le_of_ble_eq_true rfl)
  rw [lg_entry_eq]
  generalize (lg_sl ([.ref b_x, .int x0, .int x1]) ++ List.replicate (3 - (lg_sl ([.ref b_x, .int x0, .int x1])).length) Slot.unset).toArray = ls at hl ⊢
  have hl : lv_has ls 3 [(0, .ref b_x), (1, .int x0), (2, .int x1)] := hl
  refine lv_aload_n hx hb d_M_layJump_0 rfl (lv_at hl 0 rfl) ?_
  refine lv_iload_n hx hb d_M_layJump_1 rfl (lv_at hl 1 rfl) ?_
  refine lv_iload_n hx hb d_M_layJump_2 rfl (lv_at hl 2 rfl) ?_
  refine lv_iconst (v := 1) hx hb d_M_layJump_3 (by decide) ?_
  obtain ⟨q_4, e_4⟩ : ∃ z, z = (mF_StepMachineModel_ends m_row x0 x1 1) := ⟨_, rfl⟩
  refine wVv (As := [.int x0, .int x1, .int 1]) (rest := []) e_4 ⟨hx, hb, hml, hown, hts⟩ (mc_StepMachineModel_ends l D tc tb z0 _ b_x b_row b_part b_mem b_mrk b_sf b_ss b_sr b_h b_r b_in b_out b_k m_on m_hc m_pc m_giv m_tak m_put m_st m_cu m_va m_sp m_un m_kc m_kn m_by m_kd m_tg m_ju m_row x0 x1 1 hk) (cwV 3 hts (goodV a_624 a_625 a_914 a_10 a_626) rfl rfl rfl hv_M_ends ⟨Nat.le_of_ble_eq_true rfl, Nat.le_of_ble_eq_true rfl⟩) hP hD hS hA hZ hK hB [0, 1] rfl (by decide) (fun _ => rfl) rfl rfl rfl hl.1 rfl (Nat.le_of_ble_eq_true rfl) d_M_layJump_4 ⟨Nat.zero_le _, Nat.zero_le _⟩ (fun H locs hP hD hS => ?_)
  have hP : va_P D vwCl [(b_x, .inr (9, [.ref b_row, .ref b_part, .ref b_mem, .ref b_mrk, .ref b_sf, .ref b_ss, .ref b_sr, .int m_on, .ref b_h, .int m_hc, .ref b_r, .int m_pc, .ref b_in, .int m_giv, .int m_tak, .ref b_out, .int m_put, .int m_st, .int m_cu, .int m_va, .int m_sp, .int m_un, .ref b_k, .int m_kc, .int m_kn, .int m_by, .int m_kd, .int m_tg, .int m_ju])), (b_row, .inl (tc 0, 2400, .inl q_4))] H := hP
  have hD : va_D A [(b_x, .inr (9, [.ref b_row, .ref b_part, .ref b_mem, .ref b_mrk, .ref b_sf, .ref b_ss, .ref b_sr, .int m_on, .ref b_h, .int m_hc, .ref b_r, .int m_pc, .ref b_in, .int m_giv, .int m_tak, .ref b_out, .int m_put, .int m_st, .int m_cu, .int m_va, .int m_sp, .int m_un, .ref b_k, .int m_kc, .int m_kn, .int m_by, .int m_kd, .int m_tg, .int m_ju])), (b_row, .inl (tc 0, 2400, .inl q_4))] := hD
  refine lv_aload_n hx hb d_M_layJump_7 rfl (lv_at hl 0 rfl) ?_
  refine lv_iload_n hx hb d_M_layJump_8 rfl (lv_at hl 1 rfl) ?_
  refine lv_bipush (v := 12) hx hb d_M_layJump_9 (by decide) ?_
  refine lv_bipush (v := 11) hx hb d_M_layJump_11 (by decide) ?_
  obtain ⟨q_13, e_13⟩ : ∃ z, z = (mF_StepMachineModel_one q_4 x0 12 11) := ⟨_, rfl⟩
  refine wVv (As := [.int x0, .int 12, .int 11]) (rest := []) e_13 ⟨hx, hb, hml, hown, hts⟩ (mc_StepMachineModel_one l D tc tb z0 _ b_x b_row b_part b_mem b_mrk b_sf b_ss b_sr b_h b_r b_in b_out b_k m_on m_hc m_pc m_giv m_tak m_put m_st m_cu m_va m_sp m_un m_kc m_kn m_by m_kd m_tg m_ju q_4 x0 12 11 hk (by decide)) (cwV 3 hts (goodV a_627 a_628 a_915 a_10 a_629) rfl rfl rfl hv_M_one ⟨Nat.le_of_ble_eq_true rfl, Nat.le_of_ble_eq_true rfl⟩) hP hD hS hA hZ hK hB [0, 1] rfl (by decide) (fun _ => rfl) rfl rfl rfl hl.1 rfl (Nat.le_of_ble_eq_true rfl) d_M_layJump_13 ⟨Nat.zero_le _, Nat.zero_le _⟩ (fun H locs hP hD hS => ?_)
  have hP : va_P D vwCl [(b_x, .inr (9, [.ref b_row, .ref b_part, .ref b_mem, .ref b_mrk, .ref b_sf, .ref b_ss, .ref b_sr, .int m_on, .ref b_h, .int m_hc, .ref b_r, .int m_pc, .ref b_in, .int m_giv, .int m_tak, .ref b_out, .int m_put, .int m_st, .int m_cu, .int m_va, .int m_sp, .int m_un, .ref b_k, .int m_kc, .int m_kn, .int m_by, .int m_kd, .int m_tg, .int m_ju])), (b_row, .inl (tc 0, 2400, .inl q_13))] H := hP
  have hD : va_D A [(b_x, .inr (9, [.ref b_row, .ref b_part, .ref b_mem, .ref b_mrk, .ref b_sf, .ref b_ss, .ref b_sr, .int m_on, .ref b_h, .int m_hc, .ref b_r, .int m_pc, .ref b_in, .int m_giv, .int m_tak, .ref b_out, .int m_put, .int m_st, .int m_cu, .int m_va, .int m_sp, .int m_un, .ref b_k, .int m_kc, .int m_kn, .int m_by, .int m_kd, .int m_tg, .int m_ju])), (b_row, .inl (tc 0, 2400, .inl q_13))] := hD
  refine lv_aload_n hx hb d_M_layJump_16 rfl (lv_at hl 0 rfl) ?_
  refine lv_iload_n hx hb d_M_layJump_17 rfl (lv_at hl 1 rfl) ?_
  refine lv_bipush (v := 11) hx hb d_M_layJump_18 (by decide) ?_
  refine lv_iconst (v := 4) hx hb d_M_layJump_20 (by decide) ?_
  obtain ⟨q_21, e_21⟩ : ∃ z, z = (mF_StepMachineModel_one q_13 x0 11 4) := ⟨_, rfl⟩
  refine wVv (As := [.int x0, .int 11, .int 4]) (rest := []) e_21 ⟨hx, hb, hml, hown, hts⟩ (mc_StepMachineModel_one l D tc tb z0 _ b_x b_row b_part b_mem b_mrk b_sf b_ss b_sr b_h b_r b_in b_out b_k m_on m_hc m_pc m_giv m_tak m_put m_st m_cu m_va m_sp m_un m_kc m_kn m_by m_kd m_tg m_ju q_13 x0 11 4 hk (by decide)) (cwV 3 hts (goodV a_627 a_628 a_915 a_10 a_629) rfl rfl rfl hv_M_one ⟨Nat.le_of_ble_eq_true rfl, Nat.le_of_ble_eq_true rfl⟩) hP hD hS hA hZ hK hB [0, 1] rfl (by decide) (fun _ => rfl) rfl rfl rfl hl.1 rfl (Nat.le_of_ble_eq_true rfl) d_M_layJump_21 ⟨Nat.zero_le _, Nat.zero_le _⟩ (fun H locs hP hD hS => ?_)
  have hP : va_P D vwCl [(b_x, .inr (9, [.ref b_row, .ref b_part, .ref b_mem, .ref b_mrk, .ref b_sf, .ref b_ss, .ref b_sr, .int m_on, .ref b_h, .int m_hc, .ref b_r, .int m_pc, .ref b_in, .int m_giv, .int m_tak, .ref b_out, .int m_put, .int m_st, .int m_cu, .int m_va, .int m_sp, .int m_un, .ref b_k, .int m_kc, .int m_kn, .int m_by, .int m_kd, .int m_tg, .int m_ju])), (b_row, .inl (tc 0, 2400, .inl q_21))] H := hP
  have hD : va_D A [(b_x, .inr (9, [.ref b_row, .ref b_part, .ref b_mem, .ref b_mrk, .ref b_sf, .ref b_ss, .ref b_sr, .int m_on, .ref b_h, .int m_hc, .ref b_r, .int m_pc, .ref b_in, .int m_giv, .int m_tak, .ref b_out, .int m_put, .int m_st, .int m_cu, .int m_va, .int m_sp, .int m_un, .ref b_k, .int m_kc, .int m_kn, .int m_by, .int m_kd, .int m_tg, .int m_ju])), (b_row, .inl (tc 0, 2400, .inl q_21))] := hD
  refine lv_aload_n hx hb d_M_layJump_24 rfl (lv_at hl 0 rfl) ?_
  refine lv_iload_n hx hb d_M_layJump_25 rfl (lv_at hl 1 rfl) ?_
  refine lv_bipush (v := 10) hx hb d_M_layJump_26 (by decide) ?_
  refine lv_bipush (v := 9) hx hb d_M_layJump_28 (by decide) ?_
  refine lv_sipush (v := 400) hx hb d_M_layJump_30 (by decide) ?_
  refine lv_bipush (v := 9) hx hb d_M_layJump_33 (by decide) ?_
  obtain ⟨q_35, e_35⟩ : ∃ z, z = (mF_StepMachineModel_lay q_21 x0 10 9 400 9) := ⟨_, rfl⟩
  refine wVv (As := [.int x0, .int 10, .int 9, .int 400, .int 9]) (rest := []) e_35 ⟨hx, hb, hml, hown, hts⟩ (mc_StepMachineModel_lay l D tc tb z0 _ b_x b_row b_part b_mem b_mrk b_sf b_ss b_sr b_h b_r b_in b_out b_k m_on m_hc m_pc m_giv m_tak m_put m_st m_cu m_va m_sp m_un m_kc m_kn m_by m_kd m_tg m_ju q_21 x0 10 9 400 9 hk (by decide) (by decide)) (cwV 5 hts (goodV a_603 a_604 a_912 a_10 a_605) rfl rfl rfl hv_M_lay ⟨Nat.le_of_ble_eq_true rfl, Nat.le_of_ble_eq_true rfl⟩) hP hD hS hA hZ hK hB [0, 1] rfl (by decide) (fun _ => rfl) rfl rfl rfl hl.1 rfl (Nat.le_of_ble_eq_true rfl) d_M_layJump_35 ⟨Nat.zero_le _, Nat.zero_le _⟩ (fun H locs hP hD hS => ?_)
  have hP : va_P D vwCl [(b_x, .inr (9, [.ref b_row, .ref b_part, .ref b_mem, .ref b_mrk, .ref b_sf, .ref b_ss, .ref b_sr, .int m_on, .ref b_h, .int m_hc, .ref b_r, .int m_pc, .ref b_in, .int m_giv, .int m_tak, .ref b_out, .int m_put, .int m_st, .int m_cu, .int m_va, .int m_sp, .int m_un, .ref b_k, .int m_kc, .int m_kn, .int m_by, .int m_kd, .int m_tg, .int m_ju])), (b_row, .inl (tc 0, 2400, .inl q_35))] H := hP
  have hD : va_D A [(b_x, .inr (9, [.ref b_row, .ref b_part, .ref b_mem, .ref b_mrk, .ref b_sf, .ref b_ss, .ref b_sr, .int m_on, .ref b_h, .int m_hc, .ref b_r, .int m_pc, .ref b_in, .int m_giv, .int m_tak, .ref b_out, .int m_put, .int m_st, .int m_cu, .int m_va, .int m_sp, .int m_un, .ref b_k, .int m_kc, .int m_kn, .int m_by, .int m_kd, .int m_tg, .int m_ju])), (b_row, .inl (tc 0, 2400, .inl q_35))] := hD
  refine lv_aload_n hx hb d_M_layJump_38 rfl (lv_at hl 0 rfl) ?_
  refine lv_iload_n hx hb d_M_layJump_39 rfl (lv_at hl 1 rfl) ?_
  refine lv_bipush (v := 8) hx hb d_M_layJump_40 (by decide) ?_
  refine lv_bipush (v := 10) hx hb d_M_layJump_42 (by decide) ?_
  obtain ⟨q_44, e_44⟩ : ∃ z, z = (mF_StepMachineModel_one q_35 x0 8 10) := ⟨_, rfl⟩
  refine wVv (As := [.int x0, .int 8, .int 10]) (rest := []) e_44 ⟨hx, hb, hml, hown, hts⟩ (mc_StepMachineModel_one l D tc tb z0 _ b_x b_row b_part b_mem b_mrk b_sf b_ss b_sr b_h b_r b_in b_out b_k m_on m_hc m_pc m_giv m_tak m_put m_st m_cu m_va m_sp m_un m_kc m_kn m_by m_kd m_tg m_ju q_35 x0 8 10 hk (by decide)) (cwV 3 hts (goodV a_627 a_628 a_915 a_10 a_629) rfl rfl rfl hv_M_one ⟨Nat.le_of_ble_eq_true rfl, Nat.le_of_ble_eq_true rfl⟩) hP hD hS hA hZ hK hB [0, 1] rfl (by decide) (fun _ => rfl) rfl rfl rfl hl.1 rfl (Nat.le_of_ble_eq_true rfl) d_M_layJump_44 ⟨Nat.zero_le _, Nat.zero_le _⟩ (fun H locs hP hD hS => ?_)
  have hP : va_P D vwCl [(b_x, .inr (9, [.ref b_row, .ref b_part, .ref b_mem, .ref b_mrk, .ref b_sf, .ref b_ss, .ref b_sr, .int m_on, .ref b_h, .int m_hc, .ref b_r, .int m_pc, .ref b_in, .int m_giv, .int m_tak, .ref b_out, .int m_put, .int m_st, .int m_cu, .int m_va, .int m_sp, .int m_un, .ref b_k, .int m_kc, .int m_kn, .int m_by, .int m_kd, .int m_tg, .int m_ju])), (b_row, .inl (tc 0, 2400, .inl q_44))] H := hP
  have hD : va_D A [(b_x, .inr (9, [.ref b_row, .ref b_part, .ref b_mem, .ref b_mrk, .ref b_sf, .ref b_ss, .ref b_sr, .int m_on, .ref b_h, .int m_hc, .ref b_r, .int m_pc, .ref b_in, .int m_giv, .int m_tak, .ref b_out, .int m_put, .int m_st, .int m_cu, .int m_va, .int m_sp, .int m_un, .ref b_k, .int m_kc, .int m_kn, .int m_by, .int m_kd, .int m_tg, .int m_ju])), (b_row, .inl (tc 0, 2400, .inl q_44))] := hD
  refine lv_aload_n hx hb d_M_layJump_47 rfl (lv_at hl 0 rfl) ?_
  refine lv_iload_n hx hb d_M_layJump_48 rfl (lv_at hl 1 rfl) ?_
  refine lv_bipush (v := 7) hx hb d_M_layJump_49 (by decide) ?_
  refine lv_bipush (v := 6) hx hb d_M_layJump_51 (by decide) ?_
  obtain ⟨q_53, e_53⟩ : ∃ z, z = (mF_StepMachineModel_one q_44 x0 7 6) := ⟨_, rfl⟩
  refine wVv (As := [.int x0, .int 7, .int 6]) (rest := []) e_53 ⟨hx, hb, hml, hown, hts⟩ (mc_StepMachineModel_one l D tc tb z0 _ b_x b_row b_part b_mem b_mrk b_sf b_ss b_sr b_h b_r b_in b_out b_k m_on m_hc m_pc m_giv m_tak m_put m_st m_cu m_va m_sp m_un m_kc m_kn m_by m_kd m_tg m_ju q_44 x0 7 6 hk (by decide)) (cwV 3 hts (goodV a_627 a_628 a_915 a_10 a_629) rfl rfl rfl hv_M_one ⟨Nat.le_of_ble_eq_true rfl, Nat.le_of_ble_eq_true rfl⟩) hP hD hS hA hZ hK hB [0, 1] rfl (by decide) (fun _ => rfl) rfl rfl rfl hl.1 rfl (Nat.le_of_ble_eq_true rfl) d_M_layJump_53 ⟨Nat.zero_le _, Nat.zero_le _⟩ (fun H locs hP hD hS => ?_)
  have hP : va_P D vwCl [(b_x, .inr (9, [.ref b_row, .ref b_part, .ref b_mem, .ref b_mrk, .ref b_sf, .ref b_ss, .ref b_sr, .int m_on, .ref b_h, .int m_hc, .ref b_r, .int m_pc, .ref b_in, .int m_giv, .int m_tak, .ref b_out, .int m_put, .int m_st, .int m_cu, .int m_va, .int m_sp, .int m_un, .ref b_k, .int m_kc, .int m_kn, .int m_by, .int m_kd, .int m_tg, .int m_ju])), (b_row, .inl (tc 0, 2400, .inl q_53))] H := hP
  have hD : va_D A [(b_x, .inr (9, [.ref b_row, .ref b_part, .ref b_mem, .ref b_mrk, .ref b_sf, .ref b_ss, .ref b_sr, .int m_on, .ref b_h, .int m_hc, .ref b_r, .int m_pc, .ref b_in, .int m_giv, .int m_tak, .ref b_out, .int m_put, .int m_st, .int m_cu, .int m_va, .int m_sp, .int m_un, .ref b_k, .int m_kc, .int m_kn, .int m_by, .int m_kd, .int m_tg, .int m_ju])), (b_row, .inl (tc 0, 2400, .inl q_53))] := hD
  refine lv_aload_n hx hb d_M_layJump_56 rfl (lv_at hl 0 rfl) ?_
  refine lv_iload_n hx hb d_M_layJump_57 rfl (lv_at hl 1 rfl) ?_
  refine lv_bipush (v := 6) hx hb d_M_layJump_58 (by decide) ?_
  refine lv_bipush (v := 7) hx hb d_M_layJump_60 (by decide) ?_
  obtain ⟨q_62, e_62⟩ : ∃ z, z = (mF_StepMachineModel_one q_53 x0 6 7) := ⟨_, rfl⟩
  refine wVv (As := [.int x0, .int 6, .int 7]) (rest := []) e_62 ⟨hx, hb, hml, hown, hts⟩ (mc_StepMachineModel_one l D tc tb z0 _ b_x b_row b_part b_mem b_mrk b_sf b_ss b_sr b_h b_r b_in b_out b_k m_on m_hc m_pc m_giv m_tak m_put m_st m_cu m_va m_sp m_un m_kc m_kn m_by m_kd m_tg m_ju q_53 x0 6 7 hk (by decide)) (cwV 3 hts (goodV a_627 a_628 a_915 a_10 a_629) rfl rfl rfl hv_M_one ⟨Nat.le_of_ble_eq_true rfl, Nat.le_of_ble_eq_true rfl⟩) hP hD hS hA hZ hK hB [0, 1] rfl (by decide) (fun _ => rfl) rfl rfl rfl hl.1 rfl (Nat.le_of_ble_eq_true rfl) d_M_layJump_62 ⟨Nat.zero_le _, Nat.zero_le _⟩ (fun H locs hP hD hS => ?_)
  have hP : va_P D vwCl [(b_x, .inr (9, [.ref b_row, .ref b_part, .ref b_mem, .ref b_mrk, .ref b_sf, .ref b_ss, .ref b_sr, .int m_on, .ref b_h, .int m_hc, .ref b_r, .int m_pc, .ref b_in, .int m_giv, .int m_tak, .ref b_out, .int m_put, .int m_st, .int m_cu, .int m_va, .int m_sp, .int m_un, .ref b_k, .int m_kc, .int m_kn, .int m_by, .int m_kd, .int m_tg, .int m_ju])), (b_row, .inl (tc 0, 2400, .inl q_62))] H := hP
  have hD : va_D A [(b_x, .inr (9, [.ref b_row, .ref b_part, .ref b_mem, .ref b_mrk, .ref b_sf, .ref b_ss, .ref b_sr, .int m_on, .ref b_h, .int m_hc, .ref b_r, .int m_pc, .ref b_in, .int m_giv, .int m_tak, .ref b_out, .int m_put, .int m_st, .int m_cu, .int m_va, .int m_sp, .int m_un, .ref b_k, .int m_kc, .int m_kn, .int m_by, .int m_kd, .int m_tg, .int m_ju])), (b_row, .inl (tc 0, 2400, .inl q_62))] := hD
  refine lv_aload_n hx hb d_M_layJump_65 rfl (lv_at hl 0 rfl) ?_
  refine lv_iload_n hx hb d_M_layJump_66 rfl (lv_at hl 1 rfl) ?_
  refine lv_iconst (v := 5) hx hb d_M_layJump_67 (by decide) ?_
  refine lv_iconst (v := 3) hx hb d_M_layJump_68 (by decide) ?_
  refine lv_sipush (v := 400) hx hb d_M_layJump_69 (by decide) ?_
  refine lv_iconst (v := 3) hx hb d_M_layJump_72 (by decide) ?_
  obtain ⟨q_73, e_73⟩ : ∃ z, z = (mF_StepMachineModel_lay q_62 x0 5 3 400 3) := ⟨_, rfl⟩
  refine wVv (As := [.int x0, .int 5, .int 3, .int 400, .int 3]) (rest := []) e_73 ⟨hx, hb, hml, hown, hts⟩ (mc_StepMachineModel_lay l D tc tb z0 _ b_x b_row b_part b_mem b_mrk b_sf b_ss b_sr b_h b_r b_in b_out b_k m_on m_hc m_pc m_giv m_tak m_put m_st m_cu m_va m_sp m_un m_kc m_kn m_by m_kd m_tg m_ju q_62 x0 5 3 400 3 hk (by decide) (by decide)) (cwV 5 hts (goodV a_603 a_604 a_912 a_10 a_605) rfl rfl rfl hv_M_lay ⟨Nat.le_of_ble_eq_true rfl, Nat.le_of_ble_eq_true rfl⟩) hP hD hS hA hZ hK hB [0, 1] rfl (by decide) (fun _ => rfl) rfl rfl rfl hl.1 rfl (Nat.le_of_ble_eq_true rfl) d_M_layJump_73 ⟨Nat.zero_le _, Nat.zero_le _⟩ (fun H locs hP hD hS => ?_)
  have hP : va_P D vwCl [(b_x, .inr (9, [.ref b_row, .ref b_part, .ref b_mem, .ref b_mrk, .ref b_sf, .ref b_ss, .ref b_sr, .int m_on, .ref b_h, .int m_hc, .ref b_r, .int m_pc, .ref b_in, .int m_giv, .int m_tak, .ref b_out, .int m_put, .int m_st, .int m_cu, .int m_va, .int m_sp, .int m_un, .ref b_k, .int m_kc, .int m_kn, .int m_by, .int m_kd, .int m_tg, .int m_ju])), (b_row, .inl (tc 0, 2400, .inl q_73))] H := hP
  have hD : va_D A [(b_x, .inr (9, [.ref b_row, .ref b_part, .ref b_mem, .ref b_mrk, .ref b_sf, .ref b_ss, .ref b_sr, .int m_on, .ref b_h, .int m_hc, .ref b_r, .int m_pc, .ref b_in, .int m_giv, .int m_tak, .ref b_out, .int m_put, .int m_st, .int m_cu, .int m_va, .int m_sp, .int m_un, .ref b_k, .int m_kc, .int m_kn, .int m_by, .int m_kd, .int m_tg, .int m_ju])), (b_row, .inl (tc 0, 2400, .inl q_73))] := hD
  refine lv_aload_n hx hb d_M_layJump_76 rfl (lv_at hl 0 rfl) ?_
  refine lv_iload_n hx hb d_M_layJump_77 rfl (lv_at hl 1 rfl) ?_
  refine lv_iconst (v := 2) hx hb d_M_layJump_78 (by decide) ?_
  refine lv_iconst (v := 5) hx hb d_M_layJump_79 (by decide) ?_
  obtain ⟨q_80, e_80⟩ : ∃ z, z = (mF_StepMachineModel_one q_73 x0 2 5) := ⟨_, rfl⟩
  refine wVv (As := [.int x0, .int 2, .int 5]) (rest := []) e_80 ⟨hx, hb, hml, hown, hts⟩ (mc_StepMachineModel_one l D tc tb z0 _ b_x b_row b_part b_mem b_mrk b_sf b_ss b_sr b_h b_r b_in b_out b_k m_on m_hc m_pc m_giv m_tak m_put m_st m_cu m_va m_sp m_un m_kc m_kn m_by m_kd m_tg m_ju q_73 x0 2 5 hk (by decide)) (cwV 3 hts (goodV a_627 a_628 a_915 a_10 a_629) rfl rfl rfl hv_M_one ⟨Nat.le_of_ble_eq_true rfl, Nat.le_of_ble_eq_true rfl⟩) hP hD hS hA hZ hK hB [0, 1] rfl (by decide) (fun _ => rfl) rfl rfl rfl hl.1 rfl (Nat.le_of_ble_eq_true rfl) d_M_layJump_80 ⟨Nat.zero_le _, Nat.zero_le _⟩ (fun H locs hP hD hS => ?_)
  have hP : va_P D vwCl [(b_x, .inr (9, [.ref b_row, .ref b_part, .ref b_mem, .ref b_mrk, .ref b_sf, .ref b_ss, .ref b_sr, .int m_on, .ref b_h, .int m_hc, .ref b_r, .int m_pc, .ref b_in, .int m_giv, .int m_tak, .ref b_out, .int m_put, .int m_st, .int m_cu, .int m_va, .int m_sp, .int m_un, .ref b_k, .int m_kc, .int m_kn, .int m_by, .int m_kd, .int m_tg, .int m_ju])), (b_row, .inl (tc 0, 2400, .inl q_80))] H := hP
  have hD : va_D A [(b_x, .inr (9, [.ref b_row, .ref b_part, .ref b_mem, .ref b_mrk, .ref b_sf, .ref b_ss, .ref b_sr, .int m_on, .ref b_h, .int m_hc, .ref b_r, .int m_pc, .ref b_in, .int m_giv, .int m_tak, .ref b_out, .int m_put, .int m_st, .int m_cu, .int m_va, .int m_sp, .int m_un, .ref b_k, .int m_kc, .int m_kn, .int m_by, .int m_kd, .int m_tg, .int m_ju])), (b_row, .inl (tc 0, 2400, .inl q_80))] := hD
  exact W.vret hx hb hr (fun t ht hW => ⟨⟨q_80, rfl, by rw [mF_StepMachineModel_layJump, ← e_4, mF_StepMachineModel_layJump_1, ← e_13, mF_StepMachineModel_layJump_2, ← e_21, mF_StepMachineModel_layJump_3, ← e_35, mF_StepMachineModel_layJump_4, ← e_44, mF_StepMachineModel_layJump_5, ← e_53, mF_StepMachineModel_layJump_6, ← e_62, mF_StepMachineModel_layJump_7, ← e_73, mF_StepMachineModel_layJump_8, ← e_80, mF_StepMachineModel_layJump_9], by rw [ht]; exact hP, va_K.moved hW.alike hK, hD⟩, hS.F ht⟩) hS.2.2 d_M_layJump_83
def mF_StepMachineModel_layLong_5  (q_401 : (Nat → Int32)) : (Nat → Int32) := q_401
def mF_StepMachineModel_layLong_7  (q_384 : (Nat → Int32)) : (Nat → Int32) := q_384
def mF_StepMachineModel_layLong_6 (x0 : Int32) (q_371 : (Nat → Int32)) : (Nat → Int32) := (mF_StepMachineModel_layLong_7 (mF_StepMachineModel_fix q_371 x0 25 7 (mF_StepMachineModel_seventhOf x0)))
def mF_StepMachineModel_layLong_9  (q_348 : (Nat → Int32)) : (Nat → Int32) := q_348
def mF_StepMachineModel_layLong_8 (x0 : Int32) (q_335 : (Nat → Int32)) : (Nat → Int32) := (mF_StepMachineModel_layLong_9 (mF_StepMachineModel_fix q_335 x0 25 7 (mF_StepMachineModel_seventhOf x0)))
def mF_StepMachineModel_layLong_4 (x0 : Int32) (q_316 : (Nat → Int32)) : (Nat → Int32) := (if x0 ≤ 26 then (if (mF_StepMachineModel_isShift x0) = 0 then (mF_StepMachineModel_layLong_5 (mF_StepMachineModel_lay q_316 x0 31 20 400 11)) else (mF_StepMachineModel_layLong_6 x0 (mF_StepMachineModel_lay q_316 x0 24 20 400 4))) else (mF_StepMachineModel_layLong_8 x0 (mF_StepMachineModel_lay q_316 x0 24 20 300 4)))
def mF_StepMachineModel_layLong_12  (q_301 : (Nat → Int32)) : (Nat → Int32) := q_301
def mF_StepMachineModel_layLong_11 (x0 : Int32) (q_288 : (Nat → Int32)) : (Nat → Int32) := (mF_StepMachineModel_layLong_12 (mF_StepMachineModel_lay q_288 x0 11 7 400 4))
def mF_StepMachineModel_layLong_10 (x0 : Int32) (q_274 : (Nat → Int32)) : (Nat → Int32) := (mF_StepMachineModel_layLong_11 x0 (mF_StepMachineModel_lay q_274 x0 31 25 400 11))
def mF_StepMachineModel_layLong_17  (q_251 : (Nat → Int32)) : (Nat → Int32) := q_251
def mF_StepMachineModel_layLong_16 (x0 : Int32) (q_237 : (Nat → Int32)) : (Nat → Int32) := (mF_StepMachineModel_layLong_17 (mF_StepMachineModel_lay q_237 x0 7 7 400 11))
def mF_StepMachineModel_layLong_15 (x0 : Int32) (q_224 : (Nat → Int32)) : (Nat → Int32) := (mF_StepMachineModel_layLong_16 x0 (mF_StepMachineModel_lay q_224 x0 11 8 400 4))
def mF_StepMachineModel_layLong_14 (x0 : Int32) (q_210 : (Nat → Int32)) : (Nat → Int32) := (mF_StepMachineModel_layLong_15 x0 (mF_StepMachineModel_lay q_210 x0 30 25 400 10))
def mF_StepMachineModel_layLong_13 (x0 : Int32) (q_196 : (Nat → Int32)) : (Nat → Int32) := (mF_StepMachineModel_layLong_14 x0 (mF_StepMachineModel_lay q_196 x0 31 31 400 12))
def mF_StepMachineModel_layLong_3 (x0 : Int32) (q_176 : (Nat → Int32)) : (Nat → Int32) := (if (mF_StepMachineModel_isBranch x0) = 0 then (if (mF_StepMachineModel_isStore x0) = 0 then (mF_StepMachineModel_layLong_4 x0 (mF_StepMachineModel_lay q_176 x0 11 7 100 4)) else (mF_StepMachineModel_layLong_10 x0 (mF_StepMachineModel_lay q_176 x0 24 20 300 4))) else (mF_StepMachineModel_layLong_13 x0 (mF_StepMachineModel_lay q_176 x0 24 20 300 4)))
def mF_StepMachineModel_layLong_2 (x0 : Int32) (q_163 : (Nat → Int32)) : (Nat → Int32) := (mF_StepMachineModel_layLong_3 x0 (mF_StepMachineModel_lay q_163 x0 19 15 200 4))
def mF_StepMachineModel_layLong_22  (q_150 : (Nat → Int32)) : (Nat → Int32) := q_150
def mF_StepMachineModel_layLong_21 (x0 : Int32) (q_136 : (Nat → Int32)) : (Nat → Int32) := (mF_StepMachineModel_layLong_22 (mF_StepMachineModel_lay q_136 x0 19 12 400 19))
def mF_StepMachineModel_layLong_20 (x0 : Int32) (q_122 : (Nat → Int32)) : (Nat → Int32) := (mF_StepMachineModel_layLong_21 x0 (mF_StepMachineModel_lay q_122 x0 20 20 400 11))
def mF_StepMachineModel_layLong_19 (x0 : Int32) (q_108 : (Nat → Int32)) : (Nat → Int32) := (mF_StepMachineModel_layLong_20 x0 (mF_StepMachineModel_lay q_108 x0 30 21 400 10))
def mF_StepMachineModel_layLong_23  (q_91 : (Nat → Int32)) : (Nat → Int32) := q_91
def mF_StepMachineModel_layLong_18 (x0 : Int32) (q_72 : (Nat → Int32)) : (Nat → Int32) := (if 2 ≤ x0 then (mF_StepMachineModel_layLong_19 x0 (mF_StepMachineModel_lay q_72 x0 31 31 400 20)) else (mF_StepMachineModel_layLong_23 (mF_StepMachineModel_lay q_72 x0 31 12 400 19)))
def mF_StepMachineModel_layLong_1 (x0 : Int32) (q_55 : (Nat → Int32)) : (Nat → Int32) := (if 3 ≤ x0 then (mF_StepMachineModel_layLong_2 x0 (mF_StepMachineModel_fix q_55 x0 12 3 (mF_StepMachineModel_thirdOf x0))) else (mF_StepMachineModel_layLong_18 x0 (mF_StepMachineModel_lay q_55 x0 11 7 100 4)))
def mF_StepMachineModel_layLong_26  (q_42 : (Nat → Int32)) : (Nat → Int32) := q_42
def mF_StepMachineModel_layLong_25  (q_42 : (Nat → Int32)) : (Nat → Int32) := q_42
def mF_StepMachineModel_layLong_24  (q_42 : (Nat → Int32)) : (Nat → Int32) := q_42
def mF_StepMachineModel_layLong (m_row : Nat → Int32) (x0 : Int32) : (Nat → Int32) := (if x0 < 48 then (if x0 ≤ 44 then (mF_StepMachineModel_layLong_1 x0 (mF_StepMachineModel_fix m_row x0 0 7 (mF_StepMachineModel_opcodeOf x0))) else (if x0 = 45 then (mF_StepMachineModel_layLong_26 (mF_StepMachineModel_fix m_row x0 0 32 267386895)) else (if x0 = 46 then (mF_StepMachineModel_layLong_25 (mF_StepMachineModel_fix m_row x0 0 32 115)) else (mF_StepMachineModel_layLong_24 (mF_StepMachineModel_fix m_row x0 0 32 1048691))))) else m_row)
set_option maxHeartbeats 4000000 in
set_option maxRecDepth 100000 in
theorem mc_StepMachineModel_layLong (l : Launch) (D : va_G) (tc : Nat → ClassId) (tb : Nat → Nat) (z0 : Nat) (sz : Nat) (b_x b_row b_part b_mem b_mrk b_sf b_ss b_sr b_h b_r b_in b_out b_k : Nat) (m_on : Int32) (m_hc : Int32) (m_pc : Int32) (m_giv : Int32) (m_tak : Int32) (m_put : Int32) (m_st : Int32) (m_cu : Int32) (m_va : Int32) (m_sp : Int32) (m_un : Int32) (m_kc : Int32) (m_kn : Int32) (m_by : Int32) (m_kd : Int32) (m_tg : Int32) (m_ju : Int32) (m_row : Nat → Int32) (x0 : Int32) (hk : 0 ≤ x0.toInt ∧ x0.toInt < 75) : Met l y_M_layLong (wM y_M_layLong b_M_layLong 2 none) ({ frames := 1, cells := 0, slots := 0, locals := 26 }) (va_Pc [.ref b_x, .int x0] (Pw D tc tb z0 [(b_x, .inr (9, [.ref b_row, .ref b_part, .ref b_mem, .ref b_mrk, .ref b_sf, .ref b_ss, .ref b_sr, .int m_on, .ref b_h, .int m_hc, .ref b_r, .int m_pc, .ref b_in, .int m_giv, .int m_tak, .ref b_out, .int m_put, .int m_st, .int m_cu, .int m_va, .int m_sp, .int m_un, .ref b_k, .int m_kc, .int m_kn, .int m_by, .int m_kd, .int m_tg, .int m_ju])), (b_row, .inl (tc 0, 2400, .inl m_row))] sz)) (va_Qv (fun u : (Nat → Int32) => u = (mF_StepMachineModel_layLong m_row x0)) (Bw D tc (va_A [(b_x, .inr (9, [.ref b_row, .ref b_part, .ref b_mem, .ref b_mrk, .ref b_sf, .ref b_ss, .ref b_sr, .int m_on, .ref b_h, .int m_hc, .ref b_r, .int m_pc, .ref b_in, .int m_giv, .int m_tak, .ref b_out, .int m_put, .int m_st, .int m_cu, .int m_va, .int m_sp, .int m_un, .ref b_k, .int m_kc, .int m_kn, .int m_by, .int m_kd, .int m_tg, .int m_ju])), (b_row, .inl (tc 0, 2400, .inl m_row))] sz) (fun u => [(b_x, .inr (9, [.ref b_row, .ref b_part, .ref b_mem, .ref b_mrk, .ref b_sf, .ref b_ss, .ref b_sr, .int m_on, .ref b_h, .int m_hc, .ref b_r, .int m_pc, .ref b_in, .int m_giv, .int m_tak, .ref b_out, .int m_put, .int m_st, .int m_cu, .int m_va, .int m_sp, .int m_un, .ref b_k, .int m_kc, .int m_kn, .int m_by, .int m_kd, .int m_tg, .int m_ju])), (b_row, .inl (tc 0, 2400, .inl u))])) (va_A [(b_x, .inr (9, [.ref b_row, .ref b_part, .ref b_mem, .ref b_mrk, .ref b_sf, .ref b_ss, .ref b_sr, .int m_on, .ref b_h, .int m_hc, .ref b_r, .int m_pc, .ref b_in, .int m_giv, .int m_tak, .ref b_out, .int m_put, .int m_st, .int m_cu, .int m_va, .int m_sp, .int m_un, .ref b_k, .int m_kc, .int m_kn, .int m_by, .int m_kd, .int m_tg, .int m_ju])), (b_row, .inl (tc 0, 2400, .inl m_row))] sz)) 0 0 (va_A [(b_x, .inr (9, [.ref b_row, .ref b_part, .ref b_mem, .ref b_mrk, .ref b_sf, .ref b_ss, .ref b_sr, .int m_on, .ref b_h, .int m_hc, .ref b_r, .int m_pc, .ref b_in, .int m_giv, .int m_tak, .ref b_out, .int m_put, .int m_st, .int m_cu, .int m_va, .int m_sp, .int m_un, .ref b_k, .int m_kc, .int m_kn, .int m_by, .int m_kd, .int m_tg, .int m_ju])), (b_row, .inl (tc 0, 2400, .inl m_row))] sz) := by
  refine Met.ofW (cc := b_M_layLong) (maxL := 2) (ret := none) (by decide) rfl ?_
  intro p e s m args below meth c s₁ B hml hv
  obtain ⟨rfl, hsz, hP, hK, hB, hD0, hZ0⟩ := hv
  have hx := B.exec
  have hb := B.bytes
  have hr := B.returns
  have hts : ∀ w ∈ wALL, w.before _ s = true := fun w h => atoms_spec (ws := (wM y_M_layLong b_M_layLong 2 none)) B.pre w (List.mem_cons_of_mem _ h)
  have hown : s.vm.findClass "StepMachineModel" = some m.cls := findClass_of_methodNamed B.named
  have hlocks := B.notSynchronized
  subst hsz
  have hD := hD0.self (sz := s.heap.size)
  generalize hAe : va_A [(b_x, .inr (9, [.ref b_row, .ref b_part, .ref b_mem, .ref b_mrk, .ref b_sf, .ref b_ss, .ref b_sr, .int m_on, .ref b_h, .int m_hc, .ref b_r, .int m_pc, .ref b_in, .int m_giv, .int m_tak, .ref b_out, .int m_put, .int m_st, .int m_cu, .int m_va, .int m_sp, .int m_un, .ref b_k, .int m_kc, .int m_kn, .int m_by, .int m_kd, .int m_tg, .int m_ju])), (b_row, .inl (tc 0, 2400, .inl m_row))] s.heap.size = A at hD ⊢
  have hZ : ∀ q : Nat, A q → z0 ≤ q := by rw [← hAe]; exact hZ0
  have hA : ∀ q : Nat, s.heap.size ≤ q → A q := fun q h => by rw [← hAe]; exact Or.inr h
  have hS : va_S A s.heap s.heap [] := va_S.rf
  have hl := lv_entry ([.ref b_x, .int x0]) (n := 2) (Nat.le_of_ble_eq_true rfl)
  rw [lg_entry_eq]
  generalize (lg_sl ([.ref b_x, .int x0]) ++ List.replicate (2 - (lg_sl ([.ref b_x, .int x0])).length) Slot.unset).toArray = ls at hl ⊢
  have hl : lv_has ls 2 [(0, .ref b_x), (1, .int x0)] := hl
  refine lv_iload_n hx hb d_M_layLong_0 rfl (lv_at hl 1 rfl) ?_
  refine lv_bipush (v := 48) hx hb d_M_layLong_1 (by decide) ?_
  refine lv_icmp_lt (tgt := 7) hx hb d_M_layLong_3 (by decide) (fun c_3 => ?_) (fun c_3 => ?_)
  · skip
    refine lv_iload_n hx hb d_M_layLong_7 rfl (lv_at hl 1 rfl) ?_
    refine lv_bipush (v := 44) hx hb d_M_layLong_8 (by decide) ?_
    refine lv_icmp_le (tgt := 46) hx hb d_M_layLong_10 (by decide) (fun c_10 => ?_) (fun c_10 => ?_)
    · skip
      refine lv_aload_n hx hb d_M_layLong_46 rfl (lv_at hl 0 rfl) ?_
      refine lv_iload_n hx hb d_M_layLong_47 rfl (lv_at hl 1 rfl) ?_
      refine lv_iconst (v := 0) hx hb d_M_layLong_48 (by decide) ?_
      refine lv_bipush (v := 7) hx hb d_M_layLong_49 (by decide) ?_
      refine lv_iload_n hx hb d_M_layLong_51 rfl (lv_at hl 1 rfl) ?_
      refine roSi (As := [.int x0]) (rest := [.int 7, .int 0, .int x0, .ref b_x]) ⟨hx, hb, hml, hown, hts⟩ (mc_StepMachineModel_opcodeOf l D tc tb z0 x0) (va_cwS 1 hts (goodS a_600 a_601 a_10 a_602) rfl rfl rfl hs_M_opcodeOf ⟨Nat.le_of_ble_eq_true rfl, Nat.le_of_ble_eq_true rfl⟩) (hP.sub [] rfl) hK (hB.kept hS hZ) rfl hl.1 rfl (Nat.le_of_ble_eq_true rfl) d_M_layLong_52 ⟨Nat.zero_le _, Nat.zero_le _⟩ ?_
      obtain ⟨q_55, e_55⟩ : ∃ z, z = (mF_StepMachineModel_fix m_row x0 0 7 (mF_StepMachineModel_opcodeOf x0)) := ⟨_, rfl⟩
      refine wVv (As := [.int x0, .int 0, .int 7, .int (mF_StepMachineModel_opcodeOf x0)]) (rest := []) e_55 ⟨hx, hb, hml, hown, hts⟩ (mc_StepMachineModel_fix l D tc tb z0 _ b_x b_row b_part b_mem b_mrk b_sf b_ss b_sr b_h b_r b_in b_out b_k m_on m_hc m_pc m_giv m_tak m_put m_st m_cu m_va m_sp m_un m_kc m_kn m_by m_kd m_tg m_ju m_row x0 0 7 (mF_StepMachineModel_opcodeOf x0) hk (by decide) (by decide)) (cwV 4 hts (goodV a_597 a_598 a_911 a_10 a_599) rfl rfl rfl hv_M_fix ⟨Nat.le_of_ble_eq_true rfl, Nat.le_of_ble_eq_true rfl⟩) hP hD hS hA hZ hK hB [0, 1] rfl (by decide) (fun _ => rfl) rfl rfl rfl hl.1 rfl (Nat.le_of_ble_eq_true rfl) d_M_layLong_55 ⟨Nat.zero_le _, Nat.zero_le _⟩ (fun H locs hP hD hS => ?_)
      have hP : va_P D vwCl [(b_x, .inr (9, [.ref b_row, .ref b_part, .ref b_mem, .ref b_mrk, .ref b_sf, .ref b_ss, .ref b_sr, .int m_on, .ref b_h, .int m_hc, .ref b_r, .int m_pc, .ref b_in, .int m_giv, .int m_tak, .ref b_out, .int m_put, .int m_st, .int m_cu, .int m_va, .int m_sp, .int m_un, .ref b_k, .int m_kc, .int m_kn, .int m_by, .int m_kd, .int m_tg, .int m_ju])), (b_row, .inl (tc 0, 2400, .inl q_55))] H := hP
      have hD : va_D A [(b_x, .inr (9, [.ref b_row, .ref b_part, .ref b_mem, .ref b_mrk, .ref b_sf, .ref b_ss, .ref b_sr, .int m_on, .ref b_h, .int m_hc, .ref b_r, .int m_pc, .ref b_in, .int m_giv, .int m_tak, .ref b_out, .int m_put, .int m_st, .int m_cu, .int m_va, .int m_sp, .int m_un, .ref b_k, .int m_kc, .int m_kn, .int m_by, .int m_kd, .int m_tg, .int m_ju])), (b_row, .inl (tc 0, 2400, .inl q_55))] := hD
      refine lv_iload_n hx hb d_M_layLong_58 rfl (lv_at hl 1 rfl) ?_
      refine lv_iconst (v := 3) hx hb d_M_layLong_59 (by decide) ?_
      refine lv_icmp_ge (tgt := 154) hx hb d_M_layLong_60 (by decide) (fun c_60 => ?_) (fun c_60 => ?_)
      · skip
        refine lv_aload_n hx hb d_M_layLong_154 rfl (lv_at hl 0 rfl) ?_
        refine lv_iload_n hx hb d_M_layLong_155 rfl (lv_at hl 1 rfl) ?_
        refine lv_bipush (v := 12) hx hb d_M_layLong_156 (by decide) ?_
        refine lv_iconst (v := 3) hx hb d_M_layLong_158 (by decide) ?_
        refine lv_iload_n hx hb d_M_layLong_159 rfl (lv_at hl 1 rfl) ?_
        refine roSi (As := [.int x0]) (rest := [.int 3, .int 12, .int x0, .ref b_x]) ⟨hx, hb, hml, hown, hts⟩ (mc_StepMachineModel_thirdOf l D tc tb z0 x0) (va_cwS 1 hts (goodS a_606 a_607 a_10 a_608) rfl rfl rfl hs_M_thirdOf ⟨Nat.le_of_ble_eq_true rfl, Nat.le_of_ble_eq_true rfl⟩) (hP.sub [] rfl) hK (hB.kept hS hZ) rfl hl.1 rfl (Nat.le_of_ble_eq_true rfl) d_M_layLong_160 ⟨Nat.zero_le _, Nat.zero_le _⟩ ?_
        obtain ⟨q_163, e_163⟩ : ∃ z, z = (mF_StepMachineModel_fix q_55 x0 12 3 (mF_StepMachineModel_thirdOf x0)) := ⟨_, rfl⟩
        refine wVv (As := [.int x0, .int 12, .int 3, .int (mF_StepMachineModel_thirdOf x0)]) (rest := []) e_163 ⟨hx, hb, hml, hown, hts⟩ (mc_StepMachineModel_fix l D tc tb z0 _ b_x b_row b_part b_mem b_mrk b_sf b_ss b_sr b_h b_r b_in b_out b_k m_on m_hc m_pc m_giv m_tak m_put m_st m_cu m_va m_sp m_un m_kc m_kn m_by m_kd m_tg m_ju q_55 x0 12 3 (mF_StepMachineModel_thirdOf x0) hk (by decide) (by decide)) (cwV 4 hts (goodV a_597 a_598 a_911 a_10 a_599) rfl rfl rfl hv_M_fix ⟨Nat.le_of_ble_eq_true rfl, Nat.le_of_ble_eq_true rfl⟩) hP hD hS hA hZ hK hB [0, 1] rfl (by decide) (fun _ => rfl) rfl rfl rfl hl.1 rfl (Nat.le_of_ble_eq_true rfl) d_M_layLong_163 ⟨Nat.zero_le _, Nat.zero_le _⟩ (fun H locs hP hD hS => ?_)
        have hP : va_P D vwCl [(b_x, .inr (9, [.ref b_row, .ref b_part, .ref b_mem, .ref b_mrk, .ref b_sf, .ref b_ss, .ref b_sr, .int m_on, .ref b_h, .int m_hc, .ref b_r, .int m_pc, .ref b_in, .int m_giv, .int m_tak, .ref b_out, .int m_put, .int m_st, .int m_cu, .int m_va, .int m_sp, .int m_un, .ref b_k, .int m_kc, .int m_kn, .int m_by, .int m_kd, .int m_tg, .int m_ju])), (b_row, .inl (tc 0, 2400, .inl q_163))] H := hP
        have hD : va_D A [(b_x, .inr (9, [.ref b_row, .ref b_part, .ref b_mem, .ref b_mrk, .ref b_sf, .ref b_ss, .ref b_sr, .int m_on, .ref b_h, .int m_hc, .ref b_r, .int m_pc, .ref b_in, .int m_giv, .int m_tak, .ref b_out, .int m_put, .int m_st, .int m_cu, .int m_va, .int m_sp, .int m_un, .ref b_k, .int m_kc, .int m_kn, .int m_by, .int m_kd, .int m_tg, .int m_ju])), (b_row, .inl (tc 0, 2400, .inl q_163))] := hD
        refine lv_aload_n hx hb d_M_layLong_166 rfl (lv_at hl 0 rfl) ?_
        refine lv_iload_n hx hb d_M_layLong_167 rfl (lv_at hl 1 rfl) ?_
        refine lv_bipush (v := 19) hx hb d_M_layLong_168 (by decide) ?_
        refine lv_bipush (v := 15) hx hb d_M_layLong_170 (by decide) ?_
        refine lv_sipush (v := 200) hx hb d_M_layLong_172 (by decide) ?_
        refine lv_iconst (v := 4) hx hb d_M_layLong_175 (by decide) ?_
        obtain ⟨q_176, e_176⟩ : ∃ z, z = (mF_StepMachineModel_lay q_163 x0 19 15 200 4) := ⟨_, rfl⟩
        refine wVv (As := [.int x0, .int 19, .int 15, .int 200, .int 4]) (rest := []) e_176 ⟨hx, hb, hml, hown, hts⟩ (mc_StepMachineModel_lay l D tc tb z0 _ b_x b_row b_part b_mem b_mrk b_sf b_ss b_sr b_h b_r b_in b_out b_k m_on m_hc m_pc m_giv m_tak m_put m_st m_cu m_va m_sp m_un m_kc m_kn m_by m_kd m_tg m_ju q_163 x0 19 15 200 4 hk (by decide) (by decide)) (cwV 5 hts (goodV a_603 a_604 a_912 a_10 a_605) rfl rfl rfl hv_M_lay ⟨Nat.le_of_ble_eq_true rfl, Nat.le_of_ble_eq_true rfl⟩) hP hD hS hA hZ hK hB [0, 1] rfl (by decide) (fun _ => rfl) rfl rfl rfl hl.1 rfl (Nat.le_of_ble_eq_true rfl) d_M_layLong_176 ⟨Nat.zero_le _, Nat.zero_le _⟩ (fun H locs hP hD hS => ?_)
        have hP : va_P D vwCl [(b_x, .inr (9, [.ref b_row, .ref b_part, .ref b_mem, .ref b_mrk, .ref b_sf, .ref b_ss, .ref b_sr, .int m_on, .ref b_h, .int m_hc, .ref b_r, .int m_pc, .ref b_in, .int m_giv, .int m_tak, .ref b_out, .int m_put, .int m_st, .int m_cu, .int m_va, .int m_sp, .int m_un, .ref b_k, .int m_kc, .int m_kn, .int m_by, .int m_kd, .int m_tg, .int m_ju])), (b_row, .inl (tc 0, 2400, .inl q_176))] H := hP
        have hD : va_D A [(b_x, .inr (9, [.ref b_row, .ref b_part, .ref b_mem, .ref b_mrk, .ref b_sf, .ref b_ss, .ref b_sr, .int m_on, .ref b_h, .int m_hc, .ref b_r, .int m_pc, .ref b_in, .int m_giv, .int m_tak, .ref b_out, .int m_put, .int m_st, .int m_cu, .int m_va, .int m_sp, .int m_un, .ref b_k, .int m_kc, .int m_kn, .int m_by, .int m_kd, .int m_tg, .int m_ju])), (b_row, .inl (tc 0, 2400, .inl q_176))] := hD
        refine lv_iload_n hx hb d_M_layLong_179 rfl (lv_at hl 1 rfl) ?_
        refine roSi (As := [.int x0]) (rest := []) ⟨hx, hb, hml, hown, hts⟩ (mc_StepMachineModel_isBranch l D tc tb z0 x0) (va_cwS 1 hts (goodS a_609 a_610 a_10 a_611) rfl rfl rfl hs_M_isBranch ⟨Nat.le_of_ble_eq_true rfl, Nat.le_of_ble_eq_true rfl⟩) (hP.sub [] rfl) hK (hB.kept hS hZ) rfl hl.1 rfl (Nat.le_of_ble_eq_true rfl) d_M_layLong_180 ⟨Nat.zero_le _, Nat.zero_le _⟩ ?_
        refine lv_if_eq (tgt := 257) hx hb d_M_layLong_183 (by decide) (fun c_183 => ?_) (fun c_183 => ?_)
        · skip
          refine lv_iload_n hx hb d_M_layLong_257 rfl (lv_at hl 1 rfl) ?_
          refine roSi (As := [.int x0]) (rest := []) ⟨hx, hb, hml, hown, hts⟩ (mc_StepMachineModel_isStore l D tc tb z0 x0) (va_cwS 1 hts (goodS a_612 a_613 a_10 a_614) rfl rfl rfl hs_M_isStore ⟨Nat.le_of_ble_eq_true rfl, Nat.le_of_ble_eq_true rfl⟩) (hP.sub [] rfl) hK (hB.kept hS hZ) rfl hl.1 rfl (Nat.le_of_ble_eq_true rfl) d_M_layLong_258 ⟨Nat.zero_le _, Nat.zero_le _⟩ ?_
          refine lv_if_eq (tgt := 307) hx hb d_M_layLong_261 (by decide) (fun c_261 => ?_) (fun c_261 => ?_)
          · skip
            refine lv_aload_n hx hb d_M_layLong_307 rfl (lv_at hl 0 rfl) ?_
            refine lv_iload_n hx hb d_M_layLong_308 rfl (lv_at hl 1 rfl) ?_
            refine lv_bipush (v := 11) hx hb d_M_layLong_309 (by decide) ?_
            refine lv_bipush (v := 7) hx hb d_M_layLong_311 (by decide) ?_
            refine lv_bipush (v := 100) hx hb d_M_layLong_313 (by decide) ?_
            refine lv_iconst (v := 4) hx hb d_M_layLong_315 (by decide) ?_
            obtain ⟨q_316, e_316⟩ : ∃ z, z = (mF_StepMachineModel_lay q_176 x0 11 7 100 4) := ⟨_, rfl⟩
            refine wVv (As := [.int x0, .int 11, .int 7, .int 100, .int 4]) (rest := []) e_316 ⟨hx, hb, hml, hown, hts⟩ (mc_StepMachineModel_lay l D tc tb z0 _ b_x b_row b_part b_mem b_mrk b_sf b_ss b_sr b_h b_r b_in b_out b_k m_on m_hc m_pc m_giv m_tak m_put m_st m_cu m_va m_sp m_un m_kc m_kn m_by m_kd m_tg m_ju q_176 x0 11 7 100 4 hk (by decide) (by decide)) (cwV 5 hts (goodV a_603 a_604 a_912 a_10 a_605) rfl rfl rfl hv_M_lay ⟨Nat.le_of_ble_eq_true rfl, Nat.le_of_ble_eq_true rfl⟩) hP hD hS hA hZ hK hB [0, 1] rfl (by decide) (fun _ => rfl) rfl rfl rfl hl.1 rfl (Nat.le_of_ble_eq_true rfl) d_M_layLong_316 ⟨Nat.zero_le _, Nat.zero_le _⟩ (fun H locs hP hD hS => ?_)
            have hP : va_P D vwCl [(b_x, .inr (9, [.ref b_row, .ref b_part, .ref b_mem, .ref b_mrk, .ref b_sf, .ref b_ss, .ref b_sr, .int m_on, .ref b_h, .int m_hc, .ref b_r, .int m_pc, .ref b_in, .int m_giv, .int m_tak, .ref b_out, .int m_put, .int m_st, .int m_cu, .int m_va, .int m_sp, .int m_un, .ref b_k, .int m_kc, .int m_kn, .int m_by, .int m_kd, .int m_tg, .int m_ju])), (b_row, .inl (tc 0, 2400, .inl q_316))] H := hP
            have hD : va_D A [(b_x, .inr (9, [.ref b_row, .ref b_part, .ref b_mem, .ref b_mrk, .ref b_sf, .ref b_ss, .ref b_sr, .int m_on, .ref b_h, .int m_hc, .ref b_r, .int m_pc, .ref b_in, .int m_giv, .int m_tak, .ref b_out, .int m_put, .int m_st, .int m_cu, .int m_va, .int m_sp, .int m_un, .ref b_k, .int m_kc, .int m_kn, .int m_by, .int m_kd, .int m_tg, .int m_ju])), (b_row, .inl (tc 0, 2400, .inl q_316))] := hD
            refine lv_iload_n hx hb d_M_layLong_319 rfl (lv_at hl 1 rfl) ?_
            refine lv_bipush (v := 26) hx hb d_M_layLong_320 (by decide) ?_
            refine lv_icmp_le (tgt := 354) hx hb d_M_layLong_322 (by decide) (fun c_322 => ?_) (fun c_322 => ?_)
            · skip
              refine lv_iload_n hx hb d_M_layLong_354 rfl (lv_at hl 1 rfl) ?_
              refine roSi (As := [.int x0]) (rest := []) ⟨hx, hb, hml, hown, hts⟩ (mc_StepMachineModel_isShift l D tc tb z0 x0) (va_cwS 1 hts (goodS a_618 a_619 a_10 a_620) rfl rfl rfl hs_M_isShift ⟨Nat.le_of_ble_eq_true rfl, Nat.le_of_ble_eq_true rfl⟩) (hP.sub [] rfl) hK (hB.kept hS hZ) rfl hl.1 rfl (Nat.le_of_ble_eq_true rfl) d_M_layLong_355 ⟨Nat.zero_le _, Nat.zero_le _⟩ ?_
              refine lv_if_eq (tgt := 390) hx hb d_M_layLong_358 (by decide) (fun c_358 => ?_) (fun c_358 => ?_)
              · skip
                refine lv_aload_n hx hb d_M_layLong_390 rfl (lv_at hl 0 rfl) ?_
                refine lv_iload_n hx hb d_M_layLong_391 rfl (lv_at hl 1 rfl) ?_
                refine lv_bipush (v := 31) hx hb d_M_layLong_392 (by decide) ?_
                refine lv_bipush (v := 20) hx hb d_M_layLong_394 (by decide) ?_
                refine lv_sipush (v := 400) hx hb d_M_layLong_396 (by decide) ?_
                refine lv_bipush (v := 11) hx hb d_M_layLong_399 (by decide) ?_
                obtain ⟨q_401, e_401⟩ : ∃ z, z = (mF_StepMachineModel_lay q_316 x0 31 20 400 11) := ⟨_, rfl⟩
                refine wVv (As := [.int x0, .int 31, .int 20, .int 400, .int 11]) (rest := []) e_401 ⟨hx, hb, hml, hown, hts⟩ (mc_StepMachineModel_lay l D tc tb z0 _ b_x b_row b_part b_mem b_mrk b_sf b_ss b_sr b_h b_r b_in b_out b_k m_on m_hc m_pc m_giv m_tak m_put m_st m_cu m_va m_sp m_un m_kc m_kn m_by m_kd m_tg m_ju q_316 x0 31 20 400 11 hk (by decide) (by decide)) (cwV 5 hts (goodV a_603 a_604 a_912 a_10 a_605) rfl rfl rfl hv_M_lay ⟨Nat.le_of_ble_eq_true rfl, Nat.le_of_ble_eq_true rfl⟩) hP hD hS hA hZ hK hB [0, 1] rfl (by decide) (fun _ => rfl) rfl rfl rfl hl.1 rfl (Nat.le_of_ble_eq_true rfl) d_M_layLong_401 ⟨Nat.zero_le _, Nat.zero_le _⟩ (fun H locs hP hD hS => ?_)
                have hP : va_P D vwCl [(b_x, .inr (9, [.ref b_row, .ref b_part, .ref b_mem, .ref b_mrk, .ref b_sf, .ref b_ss, .ref b_sr, .int m_on, .ref b_h, .int m_hc, .ref b_r, .int m_pc, .ref b_in, .int m_giv, .int m_tak, .ref b_out, .int m_put, .int m_st, .int m_cu, .int m_va, .int m_sp, .int m_un, .ref b_k, .int m_kc, .int m_kn, .int m_by, .int m_kd, .int m_tg, .int m_ju])), (b_row, .inl (tc 0, 2400, .inl q_401))] H := hP
                have hD : va_D A [(b_x, .inr (9, [.ref b_row, .ref b_part, .ref b_mem, .ref b_mrk, .ref b_sf, .ref b_ss, .ref b_sr, .int m_on, .ref b_h, .int m_hc, .ref b_r, .int m_pc, .ref b_in, .int m_giv, .int m_tak, .ref b_out, .int m_put, .int m_st, .int m_cu, .int m_va, .int m_sp, .int m_un, .ref b_k, .int m_kc, .int m_kn, .int m_by, .int m_kd, .int m_tg, .int m_ju])), (b_row, .inl (tc 0, 2400, .inl q_401))] := hD
                exact W.vret hx hb hr (fun t ht hW => ⟨⟨q_401, rfl, by rw [mF_StepMachineModel_layLong, if_pos c_3, if_pos c_10, ← e_55, mF_StepMachineModel_layLong_1, if_pos c_60, ← e_163, mF_StepMachineModel_layLong_2, ← e_176, mF_StepMachineModel_layLong_3, if_pos c_183, if_pos c_261, ← e_316, mF_StepMachineModel_layLong_4, if_pos c_322, if_pos c_358, ← e_401, mF_StepMachineModel_layLong_5], by rw [ht]; exact hP, va_K.moved hW.alike hK, hD⟩, hS.F ht⟩) hS.2.2 d_M_layLong_404
              · skip
                refine lv_aload_n hx hb d_M_layLong_361 rfl (lv_at hl 0 rfl) ?_
                refine lv_iload_n hx hb d_M_layLong_362 rfl (lv_at hl 1 rfl) ?_
                refine lv_bipush (v := 24) hx hb d_M_layLong_363 (by decide) ?_
                refine lv_bipush (v := 20) hx hb d_M_layLong_365 (by decide) ?_
                refine lv_sipush (v := 400) hx hb d_M_layLong_367 (by decide) ?_
                refine lv_iconst (v := 4) hx hb d_M_layLong_370 (by decide) ?_
                obtain ⟨q_371, e_371⟩ : ∃ z, z = (mF_StepMachineModel_lay q_316 x0 24 20 400 4) := ⟨_, rfl⟩
                refine wVv (As := [.int x0, .int 24, .int 20, .int 400, .int 4]) (rest := []) e_371 ⟨hx, hb, hml, hown, hts⟩ (mc_StepMachineModel_lay l D tc tb z0 _ b_x b_row b_part b_mem b_mrk b_sf b_ss b_sr b_h b_r b_in b_out b_k m_on m_hc m_pc m_giv m_tak m_put m_st m_cu m_va m_sp m_un m_kc m_kn m_by m_kd m_tg m_ju q_316 x0 24 20 400 4 hk (by decide) (by decide)) (cwV 5 hts (goodV a_603 a_604 a_912 a_10 a_605) rfl rfl rfl hv_M_lay ⟨Nat.le_of_ble_eq_true rfl, Nat.le_of_ble_eq_true rfl⟩) hP hD hS hA hZ hK hB [0, 1] rfl (by decide) (fun _ => rfl) rfl rfl rfl hl.1 rfl (Nat.le_of_ble_eq_true rfl) d_M_layLong_371 ⟨Nat.zero_le _, Nat.zero_le _⟩ (fun H locs hP hD hS => ?_)
                have hP : va_P D vwCl [(b_x, .inr (9, [.ref b_row, .ref b_part, .ref b_mem, .ref b_mrk, .ref b_sf, .ref b_ss, .ref b_sr, .int m_on, .ref b_h, .int m_hc, .ref b_r, .int m_pc, .ref b_in, .int m_giv, .int m_tak, .ref b_out, .int m_put, .int m_st, .int m_cu, .int m_va, .int m_sp, .int m_un, .ref b_k, .int m_kc, .int m_kn, .int m_by, .int m_kd, .int m_tg, .int m_ju])), (b_row, .inl (tc 0, 2400, .inl q_371))] H := hP
                have hD : va_D A [(b_x, .inr (9, [.ref b_row, .ref b_part, .ref b_mem, .ref b_mrk, .ref b_sf, .ref b_ss, .ref b_sr, .int m_on, .ref b_h, .int m_hc, .ref b_r, .int m_pc, .ref b_in, .int m_giv, .int m_tak, .ref b_out, .int m_put, .int m_st, .int m_cu, .int m_va, .int m_sp, .int m_un, .ref b_k, .int m_kc, .int m_kn, .int m_by, .int m_kd, .int m_tg, .int m_ju])), (b_row, .inl (tc 0, 2400, .inl q_371))] := hD
                refine lv_aload_n hx hb d_M_layLong_374 rfl (lv_at hl 0 rfl) ?_
                refine lv_iload_n hx hb d_M_layLong_375 rfl (lv_at hl 1 rfl) ?_
                refine lv_bipush (v := 25) hx hb d_M_layLong_376 (by decide) ?_
                refine lv_bipush (v := 7) hx hb d_M_layLong_378 (by decide) ?_
                refine lv_iload_n hx hb d_M_layLong_380 rfl (lv_at hl 1 rfl) ?_
                refine roSi (As := [.int x0]) (rest := [.int 7, .int 25, .int x0, .ref b_x]) ⟨hx, hb, hml, hown, hts⟩ (mc_StepMachineModel_seventhOf l D tc tb z0 x0) (va_cwS 1 hts (goodS a_615 a_616 a_10 a_617) rfl rfl rfl hs_M_seventhOf ⟨Nat.le_of_ble_eq_true rfl, Nat.le_of_ble_eq_true rfl⟩) (hP.sub [] rfl) hK (hB.kept hS hZ) rfl hl.1 rfl (Nat.le_of_ble_eq_true rfl) d_M_layLong_381 ⟨Nat.zero_le _, Nat.zero_le _⟩ ?_
                obtain ⟨q_384, e_384⟩ : ∃ z, z = (mF_StepMachineModel_fix q_371 x0 25 7 (mF_StepMachineModel_seventhOf x0)) := ⟨_, rfl⟩
                refine wVv (As := [.int x0, .int 25, .int 7, .int (mF_StepMachineModel_seventhOf x0)]) (rest := []) e_384 ⟨hx, hb, hml, hown, hts⟩ (mc_StepMachineModel_fix l D tc tb z0 _ b_x b_row b_part b_mem b_mrk b_sf b_ss b_sr b_h b_r b_in b_out b_k m_on m_hc m_pc m_giv m_tak m_put m_st m_cu m_va m_sp m_un m_kc m_kn m_by m_kd m_tg m_ju q_371 x0 25 7 (mF_StepMachineModel_seventhOf x0) hk (by decide) (by decide)) (cwV 4 hts (goodV a_597 a_598 a_911 a_10 a_599) rfl rfl rfl hv_M_fix ⟨Nat.le_of_ble_eq_true rfl, Nat.le_of_ble_eq_true rfl⟩) hP hD hS hA hZ hK hB [0, 1] rfl (by decide) (fun _ => rfl) rfl rfl rfl hl.1 rfl (Nat.le_of_ble_eq_true rfl) d_M_layLong_384 ⟨Nat.zero_le _, Nat.zero_le _⟩ (fun H locs hP hD hS => ?_)
                have hP : va_P D vwCl [(b_x, .inr (9, [.ref b_row, .ref b_part, .ref b_mem, .ref b_mrk, .ref b_sf, .ref b_ss, .ref b_sr, .int m_on, .ref b_h, .int m_hc, .ref b_r, .int m_pc, .ref b_in, .int m_giv, .int m_tak, .ref b_out, .int m_put, .int m_st, .int m_cu, .int m_va, .int m_sp, .int m_un, .ref b_k, .int m_kc, .int m_kn, .int m_by, .int m_kd, .int m_tg, .int m_ju])), (b_row, .inl (tc 0, 2400, .inl q_384))] H := hP
                have hD : va_D A [(b_x, .inr (9, [.ref b_row, .ref b_part, .ref b_mem, .ref b_mrk, .ref b_sf, .ref b_ss, .ref b_sr, .int m_on, .ref b_h, .int m_hc, .ref b_r, .int m_pc, .ref b_in, .int m_giv, .int m_tak, .ref b_out, .int m_put, .int m_st, .int m_cu, .int m_va, .int m_sp, .int m_un, .ref b_k, .int m_kc, .int m_kn, .int m_by, .int m_kd, .int m_tg, .int m_ju])), (b_row, .inl (tc 0, 2400, .inl q_384))] := hD
                refine lv_goto (tgt := 404) hx hb d_M_layLong_387 (by decide) ?_
                exact W.vret hx hb hr (fun t ht hW => ⟨⟨q_384, rfl, by rw [mF_StepMachineModel_layLong, if_pos c_3, if_pos c_10, ← e_55, mF_StepMachineModel_layLong_1, if_pos c_60, ← e_163, mF_StepMachineModel_layLong_2, ← e_176, mF_StepMachineModel_layLong_3, if_pos c_183, if_pos c_261, ← e_316, mF_StepMachineModel_layLong_4, if_pos c_322, if_neg c_358, ← e_371, mF_StepMachineModel_layLong_6, ← e_384, mF_StepMachineModel_layLong_7], by rw [ht]; exact hP, va_K.moved hW.alike hK, hD⟩, hS.F ht⟩) hS.2.2 d_M_layLong_404
            · skip
              refine lv_aload_n hx hb d_M_layLong_325 rfl (lv_at hl 0 rfl) ?_
              refine lv_iload_n hx hb d_M_layLong_326 rfl (lv_at hl 1 rfl) ?_
              refine lv_bipush (v := 24) hx hb d_M_layLong_327 (by decide) ?_
              refine lv_bipush (v := 20) hx hb d_M_layLong_329 (by decide) ?_
              refine lv_sipush (v := 300) hx hb d_M_layLong_331 (by decide) ?_
              refine lv_iconst (v := 4) hx hb d_M_layLong_334 (by decide) ?_
              obtain ⟨q_335, e_335⟩ : ∃ z, z = (mF_StepMachineModel_lay q_316 x0 24 20 300 4) := ⟨_, rfl⟩
              refine wVv (As := [.int x0, .int 24, .int 20, .int 300, .int 4]) (rest := []) e_335 ⟨hx, hb, hml, hown, hts⟩ (mc_StepMachineModel_lay l D tc tb z0 _ b_x b_row b_part b_mem b_mrk b_sf b_ss b_sr b_h b_r b_in b_out b_k m_on m_hc m_pc m_giv m_tak m_put m_st m_cu m_va m_sp m_un m_kc m_kn m_by m_kd m_tg m_ju q_316 x0 24 20 300 4 hk (by decide) (by decide)) (cwV 5 hts (goodV a_603 a_604 a_912 a_10 a_605) rfl rfl rfl hv_M_lay ⟨Nat.le_of_ble_eq_true rfl, Nat.le_of_ble_eq_true rfl⟩) hP hD hS hA hZ hK hB [0, 1] rfl (by decide) (fun _ => rfl) rfl rfl rfl hl.1 rfl (Nat.le_of_ble_eq_true rfl) d_M_layLong_335 ⟨Nat.zero_le _, Nat.zero_le _⟩ (fun H locs hP hD hS => ?_)
              have hP : va_P D vwCl [(b_x, .inr (9, [.ref b_row, .ref b_part, .ref b_mem, .ref b_mrk, .ref b_sf, .ref b_ss, .ref b_sr, .int m_on, .ref b_h, .int m_hc, .ref b_r, .int m_pc, .ref b_in, .int m_giv, .int m_tak, .ref b_out, .int m_put, .int m_st, .int m_cu, .int m_va, .int m_sp, .int m_un, .ref b_k, .int m_kc, .int m_kn, .int m_by, .int m_kd, .int m_tg, .int m_ju])), (b_row, .inl (tc 0, 2400, .inl q_335))] H := hP
              have hD : va_D A [(b_x, .inr (9, [.ref b_row, .ref b_part, .ref b_mem, .ref b_mrk, .ref b_sf, .ref b_ss, .ref b_sr, .int m_on, .ref b_h, .int m_hc, .ref b_r, .int m_pc, .ref b_in, .int m_giv, .int m_tak, .ref b_out, .int m_put, .int m_st, .int m_cu, .int m_va, .int m_sp, .int m_un, .ref b_k, .int m_kc, .int m_kn, .int m_by, .int m_kd, .int m_tg, .int m_ju])), (b_row, .inl (tc 0, 2400, .inl q_335))] := hD
              refine lv_aload_n hx hb d_M_layLong_338 rfl (lv_at hl 0 rfl) ?_
              refine lv_iload_n hx hb d_M_layLong_339 rfl (lv_at hl 1 rfl) ?_
              refine lv_bipush (v := 25) hx hb d_M_layLong_340 (by decide) ?_
              refine lv_bipush (v := 7) hx hb d_M_layLong_342 (by decide) ?_
              refine lv_iload_n hx hb d_M_layLong_344 rfl (lv_at hl 1 rfl) ?_
              refine roSi (As := [.int x0]) (rest := [.int 7, .int 25, .int x0, .ref b_x]) ⟨hx, hb, hml, hown, hts⟩ (mc_StepMachineModel_seventhOf l D tc tb z0 x0) (va_cwS 1 hts (goodS a_615 a_616 a_10 a_617) rfl rfl rfl hs_M_seventhOf ⟨Nat.le_of_ble_eq_true rfl, Nat.le_of_ble_eq_true rfl⟩) (hP.sub [] rfl) hK (hB.kept hS hZ) rfl hl.1 rfl (Nat.le_of_ble_eq_true rfl) d_M_layLong_345 ⟨Nat.zero_le _, Nat.zero_le _⟩ ?_
              obtain ⟨q_348, e_348⟩ : ∃ z, z = (mF_StepMachineModel_fix q_335 x0 25 7 (mF_StepMachineModel_seventhOf x0)) := ⟨_, rfl⟩
              refine wVv (As := [.int x0, .int 25, .int 7, .int (mF_StepMachineModel_seventhOf x0)]) (rest := []) e_348 ⟨hx, hb, hml, hown, hts⟩ (mc_StepMachineModel_fix l D tc tb z0 _ b_x b_row b_part b_mem b_mrk b_sf b_ss b_sr b_h b_r b_in b_out b_k m_on m_hc m_pc m_giv m_tak m_put m_st m_cu m_va m_sp m_un m_kc m_kn m_by m_kd m_tg m_ju q_335 x0 25 7 (mF_StepMachineModel_seventhOf x0) hk (by decide) (by decide)) (cwV 4 hts (goodV a_597 a_598 a_911 a_10 a_599) rfl rfl rfl hv_M_fix ⟨Nat.le_of_ble_eq_true rfl, Nat.le_of_ble_eq_true rfl⟩) hP hD hS hA hZ hK hB [0, 1] rfl (by decide) (fun _ => rfl) rfl rfl rfl hl.1 rfl (Nat.le_of_ble_eq_true rfl) d_M_layLong_348 ⟨Nat.zero_le _, Nat.zero_le _⟩ (fun H locs hP hD hS => ?_)
              have hP : va_P D vwCl [(b_x, .inr (9, [.ref b_row, .ref b_part, .ref b_mem, .ref b_mrk, .ref b_sf, .ref b_ss, .ref b_sr, .int m_on, .ref b_h, .int m_hc, .ref b_r, .int m_pc, .ref b_in, .int m_giv, .int m_tak, .ref b_out, .int m_put, .int m_st, .int m_cu, .int m_va, .int m_sp, .int m_un, .ref b_k, .int m_kc, .int m_kn, .int m_by, .int m_kd, .int m_tg, .int m_ju])), (b_row, .inl (tc 0, 2400, .inl q_348))] H := hP
              have hD : va_D A [(b_x, .inr (9, [.ref b_row, .ref b_part, .ref b_mem, .ref b_mrk, .ref b_sf, .ref b_ss, .ref b_sr, .int m_on, .ref b_h, .int m_hc, .ref b_r, .int m_pc, .ref b_in, .int m_giv, .int m_tak, .ref b_out, .int m_put, .int m_st, .int m_cu, .int m_va, .int m_sp, .int m_un, .ref b_k, .int m_kc, .int m_kn, .int m_by, .int m_kd, .int m_tg, .int m_ju])), (b_row, .inl (tc 0, 2400, .inl q_348))] := hD
              refine lv_goto (tgt := 404) hx hb d_M_layLong_351 (by decide) ?_
              exact W.vret hx hb hr (fun t ht hW => ⟨⟨q_348, rfl, by rw [mF_StepMachineModel_layLong, if_pos c_3, if_pos c_10, ← e_55, mF_StepMachineModel_layLong_1, if_pos c_60, ← e_163, mF_StepMachineModel_layLong_2, ← e_176, mF_StepMachineModel_layLong_3, if_pos c_183, if_pos c_261, ← e_316, mF_StepMachineModel_layLong_4, if_neg c_322, ← e_335, mF_StepMachineModel_layLong_8, ← e_348, mF_StepMachineModel_layLong_9], by rw [ht]; exact hP, va_K.moved hW.alike hK, hD⟩, hS.F ht⟩) hS.2.2 d_M_layLong_404
          · skip
            refine lv_aload_n hx hb d_M_layLong_264 rfl (lv_at hl 0 rfl) ?_
            refine lv_iload_n hx hb d_M_layLong_265 rfl (lv_at hl 1 rfl) ?_
            refine lv_bipush (v := 24) hx hb d_M_layLong_266 (by decide) ?_
            refine lv_bipush (v := 20) hx hb d_M_layLong_268 (by decide) ?_
            refine lv_sipush (v := 300) hx hb d_M_layLong_270 (by decide) ?_
            refine lv_iconst (v := 4) hx hb d_M_layLong_273 (by decide) ?_
            obtain ⟨q_274, e_274⟩ : ∃ z, z = (mF_StepMachineModel_lay q_176 x0 24 20 300 4) := ⟨_, rfl⟩
            refine wVv (As := [.int x0, .int 24, .int 20, .int 300, .int 4]) (rest := []) e_274 ⟨hx, hb, hml, hown, hts⟩ (mc_StepMachineModel_lay l D tc tb z0 _ b_x b_row b_part b_mem b_mrk b_sf b_ss b_sr b_h b_r b_in b_out b_k m_on m_hc m_pc m_giv m_tak m_put m_st m_cu m_va m_sp m_un m_kc m_kn m_by m_kd m_tg m_ju q_176 x0 24 20 300 4 hk (by decide) (by decide)) (cwV 5 hts (goodV a_603 a_604 a_912 a_10 a_605) rfl rfl rfl hv_M_lay ⟨Nat.le_of_ble_eq_true rfl, Nat.le_of_ble_eq_true rfl⟩) hP hD hS hA hZ hK hB [0, 1] rfl (by decide) (fun _ => rfl) rfl rfl rfl hl.1 rfl (Nat.le_of_ble_eq_true rfl) d_M_layLong_274 ⟨Nat.zero_le _, Nat.zero_le _⟩ (fun H locs hP hD hS => ?_)
            have hP : va_P D vwCl [(b_x, .inr (9, [.ref b_row, .ref b_part, .ref b_mem, .ref b_mrk, .ref b_sf, .ref b_ss, .ref b_sr, .int m_on, .ref b_h, .int m_hc, .ref b_r, .int m_pc, .ref b_in, .int m_giv, .int m_tak, .ref b_out, .int m_put, .int m_st, .int m_cu, .int m_va, .int m_sp, .int m_un, .ref b_k, .int m_kc, .int m_kn, .int m_by, .int m_kd, .int m_tg, .int m_ju])), (b_row, .inl (tc 0, 2400, .inl q_274))] H := hP
            have hD : va_D A [(b_x, .inr (9, [.ref b_row, .ref b_part, .ref b_mem, .ref b_mrk, .ref b_sf, .ref b_ss, .ref b_sr, .int m_on, .ref b_h, .int m_hc, .ref b_r, .int m_pc, .ref b_in, .int m_giv, .int m_tak, .ref b_out, .int m_put, .int m_st, .int m_cu, .int m_va, .int m_sp, .int m_un, .ref b_k, .int m_kc, .int m_kn, .int m_by, .int m_kd, .int m_tg, .int m_ju])), (b_row, .inl (tc 0, 2400, .inl q_274))] := hD
            refine lv_aload_n hx hb d_M_layLong_277 rfl (lv_at hl 0 rfl) ?_
            refine lv_iload_n hx hb d_M_layLong_278 rfl (lv_at hl 1 rfl) ?_
            refine lv_bipush (v := 31) hx hb d_M_layLong_279 (by decide) ?_
            refine lv_bipush (v := 25) hx hb d_M_layLong_281 (by decide) ?_
            refine lv_sipush (v := 400) hx hb d_M_layLong_283 (by decide) ?_
            refine lv_bipush (v := 11) hx hb d_M_layLong_286 (by decide) ?_
            obtain ⟨q_288, e_288⟩ : ∃ z, z = (mF_StepMachineModel_lay q_274 x0 31 25 400 11) := ⟨_, rfl⟩
            refine wVv (As := [.int x0, .int 31, .int 25, .int 400, .int 11]) (rest := []) e_288 ⟨hx, hb, hml, hown, hts⟩ (mc_StepMachineModel_lay l D tc tb z0 _ b_x b_row b_part b_mem b_mrk b_sf b_ss b_sr b_h b_r b_in b_out b_k m_on m_hc m_pc m_giv m_tak m_put m_st m_cu m_va m_sp m_un m_kc m_kn m_by m_kd m_tg m_ju q_274 x0 31 25 400 11 hk (by decide) (by decide)) (cwV 5 hts (goodV a_603 a_604 a_912 a_10 a_605) rfl rfl rfl hv_M_lay ⟨Nat.le_of_ble_eq_true rfl, Nat.le_of_ble_eq_true rfl⟩) hP hD hS hA hZ hK hB [0, 1] rfl (by decide) (fun _ => rfl) rfl rfl rfl hl.1 rfl (Nat.le_of_ble_eq_true rfl) d_M_layLong_288 ⟨Nat.zero_le _, Nat.zero_le _⟩ (fun H locs hP hD hS => ?_)
            have hP : va_P D vwCl [(b_x, .inr (9, [.ref b_row, .ref b_part, .ref b_mem, .ref b_mrk, .ref b_sf, .ref b_ss, .ref b_sr, .int m_on, .ref b_h, .int m_hc, .ref b_r, .int m_pc, .ref b_in, .int m_giv, .int m_tak, .ref b_out, .int m_put, .int m_st, .int m_cu, .int m_va, .int m_sp, .int m_un, .ref b_k, .int m_kc, .int m_kn, .int m_by, .int m_kd, .int m_tg, .int m_ju])), (b_row, .inl (tc 0, 2400, .inl q_288))] H := hP
            have hD : va_D A [(b_x, .inr (9, [.ref b_row, .ref b_part, .ref b_mem, .ref b_mrk, .ref b_sf, .ref b_ss, .ref b_sr, .int m_on, .ref b_h, .int m_hc, .ref b_r, .int m_pc, .ref b_in, .int m_giv, .int m_tak, .ref b_out, .int m_put, .int m_st, .int m_cu, .int m_va, .int m_sp, .int m_un, .ref b_k, .int m_kc, .int m_kn, .int m_by, .int m_kd, .int m_tg, .int m_ju])), (b_row, .inl (tc 0, 2400, .inl q_288))] := hD
            refine lv_aload_n hx hb d_M_layLong_291 rfl (lv_at hl 0 rfl) ?_
            refine lv_iload_n hx hb d_M_layLong_292 rfl (lv_at hl 1 rfl) ?_
            refine lv_bipush (v := 11) hx hb d_M_layLong_293 (by decide) ?_
            refine lv_bipush (v := 7) hx hb d_M_layLong_295 (by decide) ?_
            refine lv_sipush (v := 400) hx hb d_M_layLong_297 (by decide) ?_
            refine lv_iconst (v := 4) hx hb d_M_layLong_300 (by decide) ?_
            obtain ⟨q_301, e_301⟩ : ∃ z, z = (mF_StepMachineModel_lay q_288 x0 11 7 400 4) := ⟨_, rfl⟩
            refine wVv (As := [.int x0, .int 11, .int 7, .int 400, .int 4]) (rest := []) e_301 ⟨hx, hb, hml, hown, hts⟩ (mc_StepMachineModel_lay l D tc tb z0 _ b_x b_row b_part b_mem b_mrk b_sf b_ss b_sr b_h b_r b_in b_out b_k m_on m_hc m_pc m_giv m_tak m_put m_st m_cu m_va m_sp m_un m_kc m_kn m_by m_kd m_tg m_ju q_288 x0 11 7 400 4 hk (by decide) (by decide)) (cwV 5 hts (goodV a_603 a_604 a_912 a_10 a_605) rfl rfl rfl hv_M_lay ⟨Nat.le_of_ble_eq_true rfl, Nat.le_of_ble_eq_true rfl⟩) hP hD hS hA hZ hK hB [0, 1] rfl (by decide) (fun _ => rfl) rfl rfl rfl hl.1 rfl (Nat.le_of_ble_eq_true rfl) d_M_layLong_301 ⟨Nat.zero_le _, Nat.zero_le _⟩ (fun H locs hP hD hS => ?_)
            have hP : va_P D vwCl [(b_x, .inr (9, [.ref b_row, .ref b_part, .ref b_mem, .ref b_mrk, .ref b_sf, .ref b_ss, .ref b_sr, .int m_on, .ref b_h, .int m_hc, .ref b_r, .int m_pc, .ref b_in, .int m_giv, .int m_tak, .ref b_out, .int m_put, .int m_st, .int m_cu, .int m_va, .int m_sp, .int m_un, .ref b_k, .int m_kc, .int m_kn, .int m_by, .int m_kd, .int m_tg, .int m_ju])), (b_row, .inl (tc 0, 2400, .inl q_301))] H := hP
            have hD : va_D A [(b_x, .inr (9, [.ref b_row, .ref b_part, .ref b_mem, .ref b_mrk, .ref b_sf, .ref b_ss, .ref b_sr, .int m_on, .ref b_h, .int m_hc, .ref b_r, .int m_pc, .ref b_in, .int m_giv, .int m_tak, .ref b_out, .int m_put, .int m_st, .int m_cu, .int m_va, .int m_sp, .int m_un, .ref b_k, .int m_kc, .int m_kn, .int m_by, .int m_kd, .int m_tg, .int m_ju])), (b_row, .inl (tc 0, 2400, .inl q_301))] := hD
            refine lv_goto (tgt := 404) hx hb d_M_layLong_304 (by decide) ?_
            exact W.vret hx hb hr (fun t ht hW => ⟨⟨q_301, rfl, by rw [mF_StepMachineModel_layLong, if_pos c_3, if_pos c_10, ← e_55, mF_StepMachineModel_layLong_1, if_pos c_60, ← e_163, mF_StepMachineModel_layLong_2, ← e_176, mF_StepMachineModel_layLong_3, if_pos c_183, if_neg c_261, ← e_274, mF_StepMachineModel_layLong_10, ← e_288, mF_StepMachineModel_layLong_11, ← e_301, mF_StepMachineModel_layLong_12], by rw [ht]; exact hP, va_K.moved hW.alike hK, hD⟩, hS.F ht⟩) hS.2.2 d_M_layLong_404
        · skip
          refine lv_aload_n hx hb d_M_layLong_186 rfl (lv_at hl 0 rfl) ?_
          refine lv_iload_n hx hb d_M_layLong_187 rfl (lv_at hl 1 rfl) ?_
          refine lv_bipush (v := 24) hx hb d_M_layLong_188 (by decide) ?_
          refine lv_bipush (v := 20) hx hb d_M_layLong_190 (by decide) ?_
          refine lv_sipush (v := 300) hx hb d_M_layLong_192 (by decide) ?_
          refine lv_iconst (v := 4) hx hb d_M_layLong_195 (by decide) ?_
          obtain ⟨q_196, e_196⟩ : ∃ z, z = (mF_StepMachineModel_lay q_176 x0 24 20 300 4) := ⟨_, rfl⟩
          refine wVv (As := [.int x0, .int 24, .int 20, .int 300, .int 4]) (rest := []) e_196 ⟨hx, hb, hml, hown, hts⟩ (mc_StepMachineModel_lay l D tc tb z0 _ b_x b_row b_part b_mem b_mrk b_sf b_ss b_sr b_h b_r b_in b_out b_k m_on m_hc m_pc m_giv m_tak m_put m_st m_cu m_va m_sp m_un m_kc m_kn m_by m_kd m_tg m_ju q_176 x0 24 20 300 4 hk (by decide) (by decide)) (cwV 5 hts (goodV a_603 a_604 a_912 a_10 a_605) rfl rfl rfl hv_M_lay ⟨Nat.le_of_ble_eq_true rfl, Nat.le_of_ble_eq_true rfl⟩) hP hD hS hA hZ hK hB [0, 1] rfl (by decide) (fun _ => rfl) rfl rfl rfl hl.1 rfl (Nat.le_of_ble_eq_true rfl) d_M_layLong_196 ⟨Nat.zero_le _, Nat.zero_le _⟩ (fun H locs hP hD hS => ?_)
          have hP : va_P D vwCl [(b_x, .inr (9, [.ref b_row, .ref b_part, .ref b_mem, .ref b_mrk, .ref b_sf, .ref b_ss, .ref b_sr, .int m_on, .ref b_h, .int m_hc, .ref b_r, .int m_pc, .ref b_in, .int m_giv, .int m_tak, .ref b_out, .int m_put, .int m_st, .int m_cu, .int m_va, .int m_sp, .int m_un, .ref b_k, .int m_kc, .int m_kn, .int m_by, .int m_kd, .int m_tg, .int m_ju])), (b_row, .inl (tc 0, 2400, .inl q_196))] H := hP
          have hD : va_D A [(b_x, .inr (9, [.ref b_row, .ref b_part, .ref b_mem, .ref b_mrk, .ref b_sf, .ref b_ss, .ref b_sr, .int m_on, .ref b_h, .int m_hc, .ref b_r, .int m_pc, .ref b_in, .int m_giv, .int m_tak, .ref b_out, .int m_put, .int m_st, .int m_cu, .int m_va, .int m_sp, .int m_un, .ref b_k, .int m_kc, .int m_kn, .int m_by, .int m_kd, .int m_tg, .int m_ju])), (b_row, .inl (tc 0, 2400, .inl q_196))] := hD
          refine lv_aload_n hx hb d_M_layLong_199 rfl (lv_at hl 0 rfl) ?_
          refine lv_iload_n hx hb d_M_layLong_200 rfl (lv_at hl 1 rfl) ?_
          refine lv_bipush (v := 31) hx hb d_M_layLong_201 (by decide) ?_
          refine lv_bipush (v := 31) hx hb d_M_layLong_203 (by decide) ?_
          refine lv_sipush (v := 400) hx hb d_M_layLong_205 (by decide) ?_
          refine lv_bipush (v := 12) hx hb d_M_layLong_208 (by decide) ?_
          obtain ⟨q_210, e_210⟩ : ∃ z, z = (mF_StepMachineModel_lay q_196 x0 31 31 400 12) := ⟨_, rfl⟩
          refine wVv (As := [.int x0, .int 31, .int 31, .int 400, .int 12]) (rest := []) e_210 ⟨hx, hb, hml, hown, hts⟩ (mc_StepMachineModel_lay l D tc tb z0 _ b_x b_row b_part b_mem b_mrk b_sf b_ss b_sr b_h b_r b_in b_out b_k m_on m_hc m_pc m_giv m_tak m_put m_st m_cu m_va m_sp m_un m_kc m_kn m_by m_kd m_tg m_ju q_196 x0 31 31 400 12 hk (by decide) (by decide)) (cwV 5 hts (goodV a_603 a_604 a_912 a_10 a_605) rfl rfl rfl hv_M_lay ⟨Nat.le_of_ble_eq_true rfl, Nat.le_of_ble_eq_true rfl⟩) hP hD hS hA hZ hK hB [0, 1] rfl (by decide) (fun _ => rfl) rfl rfl rfl hl.1 rfl (Nat.le_of_ble_eq_true rfl) d_M_layLong_210 ⟨Nat.zero_le _, Nat.zero_le _⟩ (fun H locs hP hD hS => ?_)
          have hP : va_P D vwCl [(b_x, .inr (9, [.ref b_row, .ref b_part, .ref b_mem, .ref b_mrk, .ref b_sf, .ref b_ss, .ref b_sr, .int m_on, .ref b_h, .int m_hc, .ref b_r, .int m_pc, .ref b_in, .int m_giv, .int m_tak, .ref b_out, .int m_put, .int m_st, .int m_cu, .int m_va, .int m_sp, .int m_un, .ref b_k, .int m_kc, .int m_kn, .int m_by, .int m_kd, .int m_tg, .int m_ju])), (b_row, .inl (tc 0, 2400, .inl q_210))] H := hP
          have hD : va_D A [(b_x, .inr (9, [.ref b_row, .ref b_part, .ref b_mem, .ref b_mrk, .ref b_sf, .ref b_ss, .ref b_sr, .int m_on, .ref b_h, .int m_hc, .ref b_r, .int m_pc, .ref b_in, .int m_giv, .int m_tak, .ref b_out, .int m_put, .int m_st, .int m_cu, .int m_va, .int m_sp, .int m_un, .ref b_k, .int m_kc, .int m_kn, .int m_by, .int m_kd, .int m_tg, .int m_ju])), (b_row, .inl (tc 0, 2400, .inl q_210))] := hD
          refine lv_aload_n hx hb d_M_layLong_213 rfl (lv_at hl 0 rfl) ?_
          refine lv_iload_n hx hb d_M_layLong_214 rfl (lv_at hl 1 rfl) ?_
          refine lv_bipush (v := 30) hx hb d_M_layLong_215 (by decide) ?_
          refine lv_bipush (v := 25) hx hb d_M_layLong_217 (by decide) ?_
          refine lv_sipush (v := 400) hx hb d_M_layLong_219 (by decide) ?_
          refine lv_bipush (v := 10) hx hb d_M_layLong_222 (by decide) ?_
          obtain ⟨q_224, e_224⟩ : ∃ z, z = (mF_StepMachineModel_lay q_210 x0 30 25 400 10) := ⟨_, rfl⟩
          refine wVv (As := [.int x0, .int 30, .int 25, .int 400, .int 10]) (rest := []) e_224 ⟨hx, hb, hml, hown, hts⟩ (mc_StepMachineModel_lay l D tc tb z0 _ b_x b_row b_part b_mem b_mrk b_sf b_ss b_sr b_h b_r b_in b_out b_k m_on m_hc m_pc m_giv m_tak m_put m_st m_cu m_va m_sp m_un m_kc m_kn m_by m_kd m_tg m_ju q_210 x0 30 25 400 10 hk (by decide) (by decide)) (cwV 5 hts (goodV a_603 a_604 a_912 a_10 a_605) rfl rfl rfl hv_M_lay ⟨Nat.le_of_ble_eq_true rfl, Nat.le_of_ble_eq_true rfl⟩) hP hD hS hA hZ hK hB [0, 1] rfl (by decide) (fun _ => rfl) rfl rfl rfl hl.1 rfl (Nat.le_of_ble_eq_true rfl) d_M_layLong_224 ⟨Nat.zero_le _, Nat.zero_le _⟩ (fun H locs hP hD hS => ?_)
          have hP : va_P D vwCl [(b_x, .inr (9, [.ref b_row, .ref b_part, .ref b_mem, .ref b_mrk, .ref b_sf, .ref b_ss, .ref b_sr, .int m_on, .ref b_h, .int m_hc, .ref b_r, .int m_pc, .ref b_in, .int m_giv, .int m_tak, .ref b_out, .int m_put, .int m_st, .int m_cu, .int m_va, .int m_sp, .int m_un, .ref b_k, .int m_kc, .int m_kn, .int m_by, .int m_kd, .int m_tg, .int m_ju])), (b_row, .inl (tc 0, 2400, .inl q_224))] H := hP
          have hD : va_D A [(b_x, .inr (9, [.ref b_row, .ref b_part, .ref b_mem, .ref b_mrk, .ref b_sf, .ref b_ss, .ref b_sr, .int m_on, .ref b_h, .int m_hc, .ref b_r, .int m_pc, .ref b_in, .int m_giv, .int m_tak, .ref b_out, .int m_put, .int m_st, .int m_cu, .int m_va, .int m_sp, .int m_un, .ref b_k, .int m_kc, .int m_kn, .int m_by, .int m_kd, .int m_tg, .int m_ju])), (b_row, .inl (tc 0, 2400, .inl q_224))] := hD
          refine lv_aload_n hx hb d_M_layLong_227 rfl (lv_at hl 0 rfl) ?_
          refine lv_iload_n hx hb d_M_layLong_228 rfl (lv_at hl 1 rfl) ?_
          refine lv_bipush (v := 11) hx hb d_M_layLong_229 (by decide) ?_
          refine lv_bipush (v := 8) hx hb d_M_layLong_231 (by decide) ?_
          refine lv_sipush (v := 400) hx hb d_M_layLong_233 (by decide) ?_
          refine lv_iconst (v := 4) hx hb d_M_layLong_236 (by decide) ?_
          obtain ⟨q_237, e_237⟩ : ∃ z, z = (mF_StepMachineModel_lay q_224 x0 11 8 400 4) := ⟨_, rfl⟩
          refine wVv (As := [.int x0, .int 11, .int 8, .int 400, .int 4]) (rest := []) e_237 ⟨hx, hb, hml, hown, hts⟩ (mc_StepMachineModel_lay l D tc tb z0 _ b_x b_row b_part b_mem b_mrk b_sf b_ss b_sr b_h b_r b_in b_out b_k m_on m_hc m_pc m_giv m_tak m_put m_st m_cu m_va m_sp m_un m_kc m_kn m_by m_kd m_tg m_ju q_224 x0 11 8 400 4 hk (by decide) (by decide)) (cwV 5 hts (goodV a_603 a_604 a_912 a_10 a_605) rfl rfl rfl hv_M_lay ⟨Nat.le_of_ble_eq_true rfl, Nat.le_of_ble_eq_true rfl⟩) hP hD hS hA hZ hK hB [0, 1] rfl (by decide) (fun _ => rfl) rfl rfl rfl hl.1 rfl (Nat.le_of_ble_eq_true rfl) d_M_layLong_237 ⟨Nat.zero_le _, Nat.zero_le _⟩ (fun H locs hP hD hS => ?_)
          have hP : va_P D vwCl [(b_x, .inr (9, [.ref b_row, .ref b_part, .ref b_mem, .ref b_mrk, .ref b_sf, .ref b_ss, .ref b_sr, .int m_on, .ref b_h, .int m_hc, .ref b_r, .int m_pc, .ref b_in, .int m_giv, .int m_tak, .ref b_out, .int m_put, .int m_st, .int m_cu, .int m_va, .int m_sp, .int m_un, .ref b_k, .int m_kc, .int m_kn, .int m_by, .int m_kd, .int m_tg, .int m_ju])), (b_row, .inl (tc 0, 2400, .inl q_237))] H := hP
          have hD : va_D A [(b_x, .inr (9, [.ref b_row, .ref b_part, .ref b_mem, .ref b_mrk, .ref b_sf, .ref b_ss, .ref b_sr, .int m_on, .ref b_h, .int m_hc, .ref b_r, .int m_pc, .ref b_in, .int m_giv, .int m_tak, .ref b_out, .int m_put, .int m_st, .int m_cu, .int m_va, .int m_sp, .int m_un, .ref b_k, .int m_kc, .int m_kn, .int m_by, .int m_kd, .int m_tg, .int m_ju])), (b_row, .inl (tc 0, 2400, .inl q_237))] := hD
          refine lv_aload_n hx hb d_M_layLong_240 rfl (lv_at hl 0 rfl) ?_
          refine lv_iload_n hx hb d_M_layLong_241 rfl (lv_at hl 1 rfl) ?_
          refine lv_bipush (v := 7) hx hb d_M_layLong_242 (by decide) ?_
          refine lv_bipush (v := 7) hx hb d_M_layLong_244 (by decide) ?_
          refine lv_sipush (v := 400) hx hb d_M_layLong_246 (by decide) ?_
          refine lv_bipush (v := 11) hx hb d_M_layLong_249 (by decide) ?_
          obtain ⟨q_251, e_251⟩ : ∃ z, z = (mF_StepMachineModel_lay q_237 x0 7 7 400 11) := ⟨_, rfl⟩
          refine wVv (As := [.int x0, .int 7, .int 7, .int 400, .int 11]) (rest := []) e_251 ⟨hx, hb, hml, hown, hts⟩ (mc_StepMachineModel_lay l D tc tb z0 _ b_x b_row b_part b_mem b_mrk b_sf b_ss b_sr b_h b_r b_in b_out b_k m_on m_hc m_pc m_giv m_tak m_put m_st m_cu m_va m_sp m_un m_kc m_kn m_by m_kd m_tg m_ju q_237 x0 7 7 400 11 hk (by decide) (by decide)) (cwV 5 hts (goodV a_603 a_604 a_912 a_10 a_605) rfl rfl rfl hv_M_lay ⟨Nat.le_of_ble_eq_true rfl, Nat.le_of_ble_eq_true rfl⟩) hP hD hS hA hZ hK hB [0, 1] rfl (by decide) (fun _ => rfl) rfl rfl rfl hl.1 rfl (Nat.le_of_ble_eq_true rfl) d_M_layLong_251 ⟨Nat.zero_le _, Nat.zero_le _⟩ (fun H locs hP hD hS => ?_)
          have hP : va_P D vwCl [(b_x, .inr (9, [.ref b_row, .ref b_part, .ref b_mem, .ref b_mrk, .ref b_sf, .ref b_ss, .ref b_sr, .int m_on, .ref b_h, .int m_hc, .ref b_r, .int m_pc, .ref b_in, .int m_giv, .int m_tak, .ref b_out, .int m_put, .int m_st, .int m_cu, .int m_va, .int m_sp, .int m_un, .ref b_k, .int m_kc, .int m_kn, .int m_by, .int m_kd, .int m_tg, .int m_ju])), (b_row, .inl (tc 0, 2400, .inl q_251))] H := hP
          have hD : va_D A [(b_x, .inr (9, [.ref b_row, .ref b_part, .ref b_mem, .ref b_mrk, .ref b_sf, .ref b_ss, .ref b_sr, .int m_on, .ref b_h, .int m_hc, .ref b_r, .int m_pc, .ref b_in, .int m_giv, .int m_tak, .ref b_out, .int m_put, .int m_st, .int m_cu, .int m_va, .int m_sp, .int m_un, .ref b_k, .int m_kc, .int m_kn, .int m_by, .int m_kd, .int m_tg, .int m_ju])), (b_row, .inl (tc 0, 2400, .inl q_251))] := hD
          refine lv_goto (tgt := 404) hx hb d_M_layLong_254 (by decide) ?_
          exact W.vret hx hb hr (fun t ht hW => ⟨⟨q_251, rfl, by rw [mF_StepMachineModel_layLong, if_pos c_3, if_pos c_10, ← e_55, mF_StepMachineModel_layLong_1, if_pos c_60, ← e_163, mF_StepMachineModel_layLong_2, ← e_176, mF_StepMachineModel_layLong_3, if_neg c_183, ← e_196, mF_StepMachineModel_layLong_13, ← e_210, mF_StepMachineModel_layLong_14, ← e_224, mF_StepMachineModel_layLong_15, ← e_237, mF_StepMachineModel_layLong_16, ← e_251, mF_StepMachineModel_layLong_17], by rw [ht]; exact hP, va_K.moved hW.alike hK, hD⟩, hS.F ht⟩) hS.2.2 d_M_layLong_404
      · skip
        refine lv_aload_n hx hb d_M_layLong_63 rfl (lv_at hl 0 rfl) ?_
        refine lv_iload_n hx hb d_M_layLong_64 rfl (lv_at hl 1 rfl) ?_
        refine lv_bipush (v := 11) hx hb d_M_layLong_65 (by decide) ?_
        refine lv_bipush (v := 7) hx hb d_M_layLong_67 (by decide) ?_
        refine lv_bipush (v := 100) hx hb d_M_layLong_69 (by decide) ?_
        refine lv_iconst (v := 4) hx hb d_M_layLong_71 (by decide) ?_
        obtain ⟨q_72, e_72⟩ : ∃ z, z = (mF_StepMachineModel_lay q_55 x0 11 7 100 4) := ⟨_, rfl⟩
        refine wVv (As := [.int x0, .int 11, .int 7, .int 100, .int 4]) (rest := []) e_72 ⟨hx, hb, hml, hown, hts⟩ (mc_StepMachineModel_lay l D tc tb z0 _ b_x b_row b_part b_mem b_mrk b_sf b_ss b_sr b_h b_r b_in b_out b_k m_on m_hc m_pc m_giv m_tak m_put m_st m_cu m_va m_sp m_un m_kc m_kn m_by m_kd m_tg m_ju q_55 x0 11 7 100 4 hk (by decide) (by decide)) (cwV 5 hts (goodV a_603 a_604 a_912 a_10 a_605) rfl rfl rfl hv_M_lay ⟨Nat.le_of_ble_eq_true rfl, Nat.le_of_ble_eq_true rfl⟩) hP hD hS hA hZ hK hB [0, 1] rfl (by decide) (fun _ => rfl) rfl rfl rfl hl.1 rfl (Nat.le_of_ble_eq_true rfl) d_M_layLong_72 ⟨Nat.zero_le _, Nat.zero_le _⟩ (fun H locs hP hD hS => ?_)
        have hP : va_P D vwCl [(b_x, .inr (9, [.ref b_row, .ref b_part, .ref b_mem, .ref b_mrk, .ref b_sf, .ref b_ss, .ref b_sr, .int m_on, .ref b_h, .int m_hc, .ref b_r, .int m_pc, .ref b_in, .int m_giv, .int m_tak, .ref b_out, .int m_put, .int m_st, .int m_cu, .int m_va, .int m_sp, .int m_un, .ref b_k, .int m_kc, .int m_kn, .int m_by, .int m_kd, .int m_tg, .int m_ju])), (b_row, .inl (tc 0, 2400, .inl q_72))] H := hP
        have hD : va_D A [(b_x, .inr (9, [.ref b_row, .ref b_part, .ref b_mem, .ref b_mrk, .ref b_sf, .ref b_ss, .ref b_sr, .int m_on, .ref b_h, .int m_hc, .ref b_r, .int m_pc, .ref b_in, .int m_giv, .int m_tak, .ref b_out, .int m_put, .int m_st, .int m_cu, .int m_va, .int m_sp, .int m_un, .ref b_k, .int m_kc, .int m_kn, .int m_by, .int m_kd, .int m_tg, .int m_ju])), (b_row, .inl (tc 0, 2400, .inl q_72))] := hD
        refine lv_iload_n hx hb d_M_layLong_75 rfl (lv_at hl 1 rfl) ?_
        refine lv_iconst (v := 2) hx hb d_M_layLong_76 (by decide) ?_
        refine lv_icmp_ge (tgt := 97) hx hb d_M_layLong_77 (by decide) (fun c_77 => ?_) (fun c_77 => ?_)
        · skip
          refine lv_aload_n hx hb d_M_layLong_97 rfl (lv_at hl 0 rfl) ?_
          refine lv_iload_n hx hb d_M_layLong_98 rfl (lv_at hl 1 rfl) ?_
          refine lv_bipush (v := 31) hx hb d_M_layLong_99 (by decide) ?_
          refine lv_bipush (v := 31) hx hb d_M_layLong_101 (by decide) ?_
          refine lv_sipush (v := 400) hx hb d_M_layLong_103 (by decide) ?_
          refine lv_bipush (v := 20) hx hb d_M_layLong_106 (by decide) ?_
          obtain ⟨q_108, e_108⟩ : ∃ z, z = (mF_StepMachineModel_lay q_72 x0 31 31 400 20) := ⟨_, rfl⟩
          refine wVv (As := [.int x0, .int 31, .int 31, .int 400, .int 20]) (rest := []) e_108 ⟨hx, hb, hml, hown, hts⟩ (mc_StepMachineModel_lay l D tc tb z0 _ b_x b_row b_part b_mem b_mrk b_sf b_ss b_sr b_h b_r b_in b_out b_k m_on m_hc m_pc m_giv m_tak m_put m_st m_cu m_va m_sp m_un m_kc m_kn m_by m_kd m_tg m_ju q_72 x0 31 31 400 20 hk (by decide) (by decide)) (cwV 5 hts (goodV a_603 a_604 a_912 a_10 a_605) rfl rfl rfl hv_M_lay ⟨Nat.le_of_ble_eq_true rfl, Nat.le_of_ble_eq_true rfl⟩) hP hD hS hA hZ hK hB [0, 1] rfl (by decide) (fun _ => rfl) rfl rfl rfl hl.1 rfl (Nat.le_of_ble_eq_true rfl) d_M_layLong_108 ⟨Nat.zero_le _, Nat.zero_le _⟩ (fun H locs hP hD hS => ?_)
          have hP : va_P D vwCl [(b_x, .inr (9, [.ref b_row, .ref b_part, .ref b_mem, .ref b_mrk, .ref b_sf, .ref b_ss, .ref b_sr, .int m_on, .ref b_h, .int m_hc, .ref b_r, .int m_pc, .ref b_in, .int m_giv, .int m_tak, .ref b_out, .int m_put, .int m_st, .int m_cu, .int m_va, .int m_sp, .int m_un, .ref b_k, .int m_kc, .int m_kn, .int m_by, .int m_kd, .int m_tg, .int m_ju])), (b_row, .inl (tc 0, 2400, .inl q_108))] H := hP
          have hD : va_D A [(b_x, .inr (9, [.ref b_row, .ref b_part, .ref b_mem, .ref b_mrk, .ref b_sf, .ref b_ss, .ref b_sr, .int m_on, .ref b_h, .int m_hc, .ref b_r, .int m_pc, .ref b_in, .int m_giv, .int m_tak, .ref b_out, .int m_put, .int m_st, .int m_cu, .int m_va, .int m_sp, .int m_un, .ref b_k, .int m_kc, .int m_kn, .int m_by, .int m_kd, .int m_tg, .int m_ju])), (b_row, .inl (tc 0, 2400, .inl q_108))] := hD
          refine lv_aload_n hx hb d_M_layLong_111 rfl (lv_at hl 0 rfl) ?_
          refine lv_iload_n hx hb d_M_layLong_112 rfl (lv_at hl 1 rfl) ?_
          refine lv_bipush (v := 30) hx hb d_M_layLong_113 (by decide) ?_
          refine lv_bipush (v := 21) hx hb d_M_layLong_115 (by decide) ?_
          refine lv_sipush (v := 400) hx hb d_M_layLong_117 (by decide) ?_
          refine lv_bipush (v := 10) hx hb d_M_layLong_120 (by decide) ?_
          obtain ⟨q_122, e_122⟩ : ∃ z, z = (mF_StepMachineModel_lay q_108 x0 30 21 400 10) := ⟨_, rfl⟩
          refine wVv (As := [.int x0, .int 30, .int 21, .int 400, .int 10]) (rest := []) e_122 ⟨hx, hb, hml, hown, hts⟩ (mc_StepMachineModel_lay l D tc tb z0 _ b_x b_row b_part b_mem b_mrk b_sf b_ss b_sr b_h b_r b_in b_out b_k m_on m_hc m_pc m_giv m_tak m_put m_st m_cu m_va m_sp m_un m_kc m_kn m_by m_kd m_tg m_ju q_108 x0 30 21 400 10 hk (by decide) (by decide)) (cwV 5 hts (goodV a_603 a_604 a_912 a_10 a_605) rfl rfl rfl hv_M_lay ⟨Nat.le_of_ble_eq_true rfl, Nat.le_of_ble_eq_true rfl⟩) hP hD hS hA hZ hK hB [0, 1] rfl (by decide) (fun _ => rfl) rfl rfl rfl hl.1 rfl (Nat.le_of_ble_eq_true rfl) d_M_layLong_122 ⟨Nat.zero_le _, Nat.zero_le _⟩ (fun H locs hP hD hS => ?_)
          have hP : va_P D vwCl [(b_x, .inr (9, [.ref b_row, .ref b_part, .ref b_mem, .ref b_mrk, .ref b_sf, .ref b_ss, .ref b_sr, .int m_on, .ref b_h, .int m_hc, .ref b_r, .int m_pc, .ref b_in, .int m_giv, .int m_tak, .ref b_out, .int m_put, .int m_st, .int m_cu, .int m_va, .int m_sp, .int m_un, .ref b_k, .int m_kc, .int m_kn, .int m_by, .int m_kd, .int m_tg, .int m_ju])), (b_row, .inl (tc 0, 2400, .inl q_122))] H := hP
          have hD : va_D A [(b_x, .inr (9, [.ref b_row, .ref b_part, .ref b_mem, .ref b_mrk, .ref b_sf, .ref b_ss, .ref b_sr, .int m_on, .ref b_h, .int m_hc, .ref b_r, .int m_pc, .ref b_in, .int m_giv, .int m_tak, .ref b_out, .int m_put, .int m_st, .int m_cu, .int m_va, .int m_sp, .int m_un, .ref b_k, .int m_kc, .int m_kn, .int m_by, .int m_kd, .int m_tg, .int m_ju])), (b_row, .inl (tc 0, 2400, .inl q_122))] := hD
          refine lv_aload_n hx hb d_M_layLong_125 rfl (lv_at hl 0 rfl) ?_
          refine lv_iload_n hx hb d_M_layLong_126 rfl (lv_at hl 1 rfl) ?_
          refine lv_bipush (v := 20) hx hb d_M_layLong_127 (by decide) ?_
          refine lv_bipush (v := 20) hx hb d_M_layLong_129 (by decide) ?_
          refine lv_sipush (v := 400) hx hb d_M_layLong_131 (by decide) ?_
          refine lv_bipush (v := 11) hx hb d_M_layLong_134 (by decide) ?_
          obtain ⟨q_136, e_136⟩ : ∃ z, z = (mF_StepMachineModel_lay q_122 x0 20 20 400 11) := ⟨_, rfl⟩
          refine wVv (As := [.int x0, .int 20, .int 20, .int 400, .int 11]) (rest := []) e_136 ⟨hx, hb, hml, hown, hts⟩ (mc_StepMachineModel_lay l D tc tb z0 _ b_x b_row b_part b_mem b_mrk b_sf b_ss b_sr b_h b_r b_in b_out b_k m_on m_hc m_pc m_giv m_tak m_put m_st m_cu m_va m_sp m_un m_kc m_kn m_by m_kd m_tg m_ju q_122 x0 20 20 400 11 hk (by decide) (by decide)) (cwV 5 hts (goodV a_603 a_604 a_912 a_10 a_605) rfl rfl rfl hv_M_lay ⟨Nat.le_of_ble_eq_true rfl, Nat.le_of_ble_eq_true rfl⟩) hP hD hS hA hZ hK hB [0, 1] rfl (by decide) (fun _ => rfl) rfl rfl rfl hl.1 rfl (Nat.le_of_ble_eq_true rfl) d_M_layLong_136 ⟨Nat.zero_le _, Nat.zero_le _⟩ (fun H locs hP hD hS => ?_)
          have hP : va_P D vwCl [(b_x, .inr (9, [.ref b_row, .ref b_part, .ref b_mem, .ref b_mrk, .ref b_sf, .ref b_ss, .ref b_sr, .int m_on, .ref b_h, .int m_hc, .ref b_r, .int m_pc, .ref b_in, .int m_giv, .int m_tak, .ref b_out, .int m_put, .int m_st, .int m_cu, .int m_va, .int m_sp, .int m_un, .ref b_k, .int m_kc, .int m_kn, .int m_by, .int m_kd, .int m_tg, .int m_ju])), (b_row, .inl (tc 0, 2400, .inl q_136))] H := hP
          have hD : va_D A [(b_x, .inr (9, [.ref b_row, .ref b_part, .ref b_mem, .ref b_mrk, .ref b_sf, .ref b_ss, .ref b_sr, .int m_on, .ref b_h, .int m_hc, .ref b_r, .int m_pc, .ref b_in, .int m_giv, .int m_tak, .ref b_out, .int m_put, .int m_st, .int m_cu, .int m_va, .int m_sp, .int m_un, .ref b_k, .int m_kc, .int m_kn, .int m_by, .int m_kd, .int m_tg, .int m_ju])), (b_row, .inl (tc 0, 2400, .inl q_136))] := hD
          refine lv_aload_n hx hb d_M_layLong_139 rfl (lv_at hl 0 rfl) ?_
          refine lv_iload_n hx hb d_M_layLong_140 rfl (lv_at hl 1 rfl) ?_
          refine lv_bipush (v := 19) hx hb d_M_layLong_141 (by decide) ?_
          refine lv_bipush (v := 12) hx hb d_M_layLong_143 (by decide) ?_
          refine lv_sipush (v := 400) hx hb d_M_layLong_145 (by decide) ?_
          refine lv_bipush (v := 19) hx hb d_M_layLong_148 (by decide) ?_
          obtain ⟨q_150, e_150⟩ : ∃ z, z = (mF_StepMachineModel_lay q_136 x0 19 12 400 19) := ⟨_, rfl⟩
          refine wVv (As := [.int x0, .int 19, .int 12, .int 400, .int 19]) (rest := []) e_150 ⟨hx, hb, hml, hown, hts⟩ (mc_StepMachineModel_lay l D tc tb z0 _ b_x b_row b_part b_mem b_mrk b_sf b_ss b_sr b_h b_r b_in b_out b_k m_on m_hc m_pc m_giv m_tak m_put m_st m_cu m_va m_sp m_un m_kc m_kn m_by m_kd m_tg m_ju q_136 x0 19 12 400 19 hk (by decide) (by decide)) (cwV 5 hts (goodV a_603 a_604 a_912 a_10 a_605) rfl rfl rfl hv_M_lay ⟨Nat.le_of_ble_eq_true rfl, Nat.le_of_ble_eq_true rfl⟩) hP hD hS hA hZ hK hB [0, 1] rfl (by decide) (fun _ => rfl) rfl rfl rfl hl.1 rfl (Nat.le_of_ble_eq_true rfl) d_M_layLong_150 ⟨Nat.zero_le _, Nat.zero_le _⟩ (fun H locs hP hD hS => ?_)
          have hP : va_P D vwCl [(b_x, .inr (9, [.ref b_row, .ref b_part, .ref b_mem, .ref b_mrk, .ref b_sf, .ref b_ss, .ref b_sr, .int m_on, .ref b_h, .int m_hc, .ref b_r, .int m_pc, .ref b_in, .int m_giv, .int m_tak, .ref b_out, .int m_put, .int m_st, .int m_cu, .int m_va, .int m_sp, .int m_un, .ref b_k, .int m_kc, .int m_kn, .int m_by, .int m_kd, .int m_tg, .int m_ju])), (b_row, .inl (tc 0, 2400, .inl q_150))] H := hP
          have hD : va_D A [(b_x, .inr (9, [.ref b_row, .ref b_part, .ref b_mem, .ref b_mrk, .ref b_sf, .ref b_ss, .ref b_sr, .int m_on, .ref b_h, .int m_hc, .ref b_r, .int m_pc, .ref b_in, .int m_giv, .int m_tak, .ref b_out, .int m_put, .int m_st, .int m_cu, .int m_va, .int m_sp, .int m_un, .ref b_k, .int m_kc, .int m_kn, .int m_by, .int m_kd, .int m_tg, .int m_ju])), (b_row, .inl (tc 0, 2400, .inl q_150))] := hD
          exact W.vret hx hb hr (fun t ht hW => ⟨⟨q_150, rfl, by rw [mF_StepMachineModel_layLong, if_pos c_3, if_pos c_10, ← e_55, mF_StepMachineModel_layLong_1, if_neg c_60, ← e_72, mF_StepMachineModel_layLong_18, if_pos c_77, ← e_108, mF_StepMachineModel_layLong_19, ← e_122, mF_StepMachineModel_layLong_20, ← e_136, mF_StepMachineModel_layLong_21, ← e_150, mF_StepMachineModel_layLong_22], by rw [ht]; exact hP, va_K.moved hW.alike hK, hD⟩, hS.F ht⟩) hS.2.2 d_M_layLong_153
        · skip
          refine lv_aload_n hx hb d_M_layLong_80 rfl (lv_at hl 0 rfl) ?_
          refine lv_iload_n hx hb d_M_layLong_81 rfl (lv_at hl 1 rfl) ?_
          refine lv_bipush (v := 31) hx hb d_M_layLong_82 (by decide) ?_
          refine lv_bipush (v := 12) hx hb d_M_layLong_84 (by decide) ?_
          refine lv_sipush (v := 400) hx hb d_M_layLong_86 (by decide) ?_
          refine lv_bipush (v := 19) hx hb d_M_layLong_89 (by decide) ?_
          obtain ⟨q_91, e_91⟩ : ∃ z, z = (mF_StepMachineModel_lay q_72 x0 31 12 400 19) := ⟨_, rfl⟩
          refine wVv (As := [.int x0, .int 31, .int 12, .int 400, .int 19]) (rest := []) e_91 ⟨hx, hb, hml, hown, hts⟩ (mc_StepMachineModel_lay l D tc tb z0 _ b_x b_row b_part b_mem b_mrk b_sf b_ss b_sr b_h b_r b_in b_out b_k m_on m_hc m_pc m_giv m_tak m_put m_st m_cu m_va m_sp m_un m_kc m_kn m_by m_kd m_tg m_ju q_72 x0 31 12 400 19 hk (by decide) (by decide)) (cwV 5 hts (goodV a_603 a_604 a_912 a_10 a_605) rfl rfl rfl hv_M_lay ⟨Nat.le_of_ble_eq_true rfl, Nat.le_of_ble_eq_true rfl⟩) hP hD hS hA hZ hK hB [0, 1] rfl (by decide) (fun _ => rfl) rfl rfl rfl hl.1 rfl (Nat.le_of_ble_eq_true rfl) d_M_layLong_91 ⟨Nat.zero_le _, Nat.zero_le _⟩ (fun H locs hP hD hS => ?_)
          have hP : va_P D vwCl [(b_x, .inr (9, [.ref b_row, .ref b_part, .ref b_mem, .ref b_mrk, .ref b_sf, .ref b_ss, .ref b_sr, .int m_on, .ref b_h, .int m_hc, .ref b_r, .int m_pc, .ref b_in, .int m_giv, .int m_tak, .ref b_out, .int m_put, .int m_st, .int m_cu, .int m_va, .int m_sp, .int m_un, .ref b_k, .int m_kc, .int m_kn, .int m_by, .int m_kd, .int m_tg, .int m_ju])), (b_row, .inl (tc 0, 2400, .inl q_91))] H := hP
          have hD : va_D A [(b_x, .inr (9, [.ref b_row, .ref b_part, .ref b_mem, .ref b_mrk, .ref b_sf, .ref b_ss, .ref b_sr, .int m_on, .ref b_h, .int m_hc, .ref b_r, .int m_pc, .ref b_in, .int m_giv, .int m_tak, .ref b_out, .int m_put, .int m_st, .int m_cu, .int m_va, .int m_sp, .int m_un, .ref b_k, .int m_kc, .int m_kn, .int m_by, .int m_kd, .int m_tg, .int m_ju])), (b_row, .inl (tc 0, 2400, .inl q_91))] := hD
          refine lv_goto (tgt := 153) hx hb d_M_layLong_94 (by decide) ?_
          exact W.vret hx hb hr (fun t ht hW => ⟨⟨q_91, rfl, by rw [mF_StepMachineModel_layLong, if_pos c_3, if_pos c_10, ← e_55, mF_StepMachineModel_layLong_1, if_neg c_60, ← e_72, mF_StepMachineModel_layLong_18, if_neg c_77, ← e_91, mF_StepMachineModel_layLong_23], by rw [ht]; exact hP, va_K.moved hW.alike hK, hD⟩, hS.F ht⟩) hS.2.2 d_M_layLong_153
    · skip
      refine lv_aload_n hx hb d_M_layLong_13 rfl (lv_at hl 0 rfl) ?_
      refine lv_iload_n hx hb d_M_layLong_14 rfl (lv_at hl 1 rfl) ?_
      refine lv_iconst (v := 0) hx hb d_M_layLong_15 (by decide) ?_
      refine lv_bipush (v := 32) hx hb d_M_layLong_16 (by decide) ?_
      refine lv_iload_n hx hb d_M_layLong_18 rfl (lv_at hl 1 rfl) ?_
      refine lv_bipush (v := 45) hx hb d_M_layLong_19 (by decide) ?_
      refine lv_icmp_ne (tgt := 29) hx hb d_M_layLong_21 (by decide) (fun c_21 => ?_) (fun c_21 => ?_)
      · skip
        refine lv_iload_n hx hb d_M_layLong_29 rfl (lv_at hl 1 rfl) ?_
        refine lv_bipush (v := 46) hx hb d_M_layLong_30 (by decide) ?_
        refine lv_icmp_ne (tgt := 40) hx hb d_M_layLong_32 (by decide) (fun c_32 => ?_) (fun c_32 => ?_)
        · skip
          refine lv_ldc (v := 1048691) hx hb hown (hts _ a_596) d_M_layLong_40 ?_
          obtain ⟨q_42, e_42⟩ : ∃ z, z = (mF_StepMachineModel_fix m_row x0 0 32 1048691) := ⟨_, rfl⟩
          refine wVv (As := [.int x0, .int 0, .int 32, .int 1048691]) (rest := []) e_42 ⟨hx, hb, hml, hown, hts⟩ (mc_StepMachineModel_fix l D tc tb z0 _ b_x b_row b_part b_mem b_mrk b_sf b_ss b_sr b_h b_r b_in b_out b_k m_on m_hc m_pc m_giv m_tak m_put m_st m_cu m_va m_sp m_un m_kc m_kn m_by m_kd m_tg m_ju m_row x0 0 32 1048691 hk (by decide) (by decide)) (cwV 4 hts (goodV a_597 a_598 a_911 a_10 a_599) rfl rfl rfl hv_M_fix ⟨Nat.le_of_ble_eq_true rfl, Nat.le_of_ble_eq_true rfl⟩) hP hD hS hA hZ hK hB [0, 1] rfl (by decide) (fun _ => rfl) rfl rfl rfl hl.1 rfl (Nat.le_of_ble_eq_true rfl) d_M_layLong_42 ⟨Nat.zero_le _, Nat.zero_le _⟩ (fun H locs hP hD hS => ?_)
          have hP : va_P D vwCl [(b_x, .inr (9, [.ref b_row, .ref b_part, .ref b_mem, .ref b_mrk, .ref b_sf, .ref b_ss, .ref b_sr, .int m_on, .ref b_h, .int m_hc, .ref b_r, .int m_pc, .ref b_in, .int m_giv, .int m_tak, .ref b_out, .int m_put, .int m_st, .int m_cu, .int m_va, .int m_sp, .int m_un, .ref b_k, .int m_kc, .int m_kn, .int m_by, .int m_kd, .int m_tg, .int m_ju])), (b_row, .inl (tc 0, 2400, .inl q_42))] H := hP
          have hD : va_D A [(b_x, .inr (9, [.ref b_row, .ref b_part, .ref b_mem, .ref b_mrk, .ref b_sf, .ref b_ss, .ref b_sr, .int m_on, .ref b_h, .int m_hc, .ref b_r, .int m_pc, .ref b_in, .int m_giv, .int m_tak, .ref b_out, .int m_put, .int m_st, .int m_cu, .int m_va, .int m_sp, .int m_un, .ref b_k, .int m_kc, .int m_kn, .int m_by, .int m_kd, .int m_tg, .int m_ju])), (b_row, .inl (tc 0, 2400, .inl q_42))] := hD
          exact W.vret hx hb hr (fun t ht hW => ⟨⟨q_42, rfl, by rw [mF_StepMachineModel_layLong, if_pos c_3, if_neg c_10, if_neg c_21, if_neg c_32, ← e_42, mF_StepMachineModel_layLong_24], by rw [ht]; exact hP, va_K.moved hW.alike hK, hD⟩, hS.F ht⟩) hS.2.2 d_M_layLong_45
        · skip
          refine lv_bipush (v := 115) hx hb d_M_layLong_35 (by decide) ?_
          refine lv_goto (tgt := 42) hx hb d_M_layLong_37 (by decide) ?_
          obtain ⟨q_42, e_42⟩ : ∃ z, z = (mF_StepMachineModel_fix m_row x0 0 32 115) := ⟨_, rfl⟩
          refine wVv (As := [.int x0, .int 0, .int 32, .int 115]) (rest := []) e_42 ⟨hx, hb, hml, hown, hts⟩ (mc_StepMachineModel_fix l D tc tb z0 _ b_x b_row b_part b_mem b_mrk b_sf b_ss b_sr b_h b_r b_in b_out b_k m_on m_hc m_pc m_giv m_tak m_put m_st m_cu m_va m_sp m_un m_kc m_kn m_by m_kd m_tg m_ju m_row x0 0 32 115 hk (by decide) (by decide)) (cwV 4 hts (goodV a_597 a_598 a_911 a_10 a_599) rfl rfl rfl hv_M_fix ⟨Nat.le_of_ble_eq_true rfl, Nat.le_of_ble_eq_true rfl⟩) hP hD hS hA hZ hK hB [0, 1] rfl (by decide) (fun _ => rfl) rfl rfl rfl hl.1 rfl (Nat.le_of_ble_eq_true rfl) d_M_layLong_42 ⟨Nat.zero_le _, Nat.zero_le _⟩ (fun H locs hP hD hS => ?_)
          have hP : va_P D vwCl [(b_x, .inr (9, [.ref b_row, .ref b_part, .ref b_mem, .ref b_mrk, .ref b_sf, .ref b_ss, .ref b_sr, .int m_on, .ref b_h, .int m_hc, .ref b_r, .int m_pc, .ref b_in, .int m_giv, .int m_tak, .ref b_out, .int m_put, .int m_st, .int m_cu, .int m_va, .int m_sp, .int m_un, .ref b_k, .int m_kc, .int m_kn, .int m_by, .int m_kd, .int m_tg, .int m_ju])), (b_row, .inl (tc 0, 2400, .inl q_42))] H := hP
          have hD : va_D A [(b_x, .inr (9, [.ref b_row, .ref b_part, .ref b_mem, .ref b_mrk, .ref b_sf, .ref b_ss, .ref b_sr, .int m_on, .ref b_h, .int m_hc, .ref b_r, .int m_pc, .ref b_in, .int m_giv, .int m_tak, .ref b_out, .int m_put, .int m_st, .int m_cu, .int m_va, .int m_sp, .int m_un, .ref b_k, .int m_kc, .int m_kn, .int m_by, .int m_kd, .int m_tg, .int m_ju])), (b_row, .inl (tc 0, 2400, .inl q_42))] := hD
          exact W.vret hx hb hr (fun t ht hW => ⟨⟨q_42, rfl, by rw [mF_StepMachineModel_layLong, if_pos c_3, if_neg c_10, if_neg c_21, if_pos c_32, ← e_42, mF_StepMachineModel_layLong_25], by rw [ht]; exact hP, va_K.moved hW.alike hK, hD⟩, hS.F ht⟩) hS.2.2 d_M_layLong_45
      · skip
        refine lv_ldc (v := 267386895) hx hb hown (hts _ a_595) d_M_layLong_24 ?_
        refine lv_goto (tgt := 42) hx hb d_M_layLong_26 (by decide) ?_
        obtain ⟨q_42, e_42⟩ : ∃ z, z = (mF_StepMachineModel_fix m_row x0 0 32 267386895) := ⟨_, rfl⟩
        refine wVv (As := [.int x0, .int 0, .int 32, .int 267386895]) (rest := []) e_42 ⟨hx, hb, hml, hown, hts⟩ (mc_StepMachineModel_fix l D tc tb z0 _ b_x b_row b_part b_mem b_mrk b_sf b_ss b_sr b_h b_r b_in b_out b_k m_on m_hc m_pc m_giv m_tak m_put m_st m_cu m_va m_sp m_un m_kc m_kn m_by m_kd m_tg m_ju m_row x0 0 32 267386895 hk (by decide) (by decide)) (cwV 4 hts (goodV a_597 a_598 a_911 a_10 a_599) rfl rfl rfl hv_M_fix ⟨Nat.le_of_ble_eq_true rfl, Nat.le_of_ble_eq_true rfl⟩) hP hD hS hA hZ hK hB [0, 1] rfl (by decide) (fun _ => rfl) rfl rfl rfl hl.1 rfl (Nat.le_of_ble_eq_true rfl) d_M_layLong_42 ⟨Nat.zero_le _, Nat.zero_le _⟩ (fun H locs hP hD hS => ?_)
        have hP : va_P D vwCl [(b_x, .inr (9, [.ref b_row, .ref b_part, .ref b_mem, .ref b_mrk, .ref b_sf, .ref b_ss, .ref b_sr, .int m_on, .ref b_h, .int m_hc, .ref b_r, .int m_pc, .ref b_in, .int m_giv, .int m_tak, .ref b_out, .int m_put, .int m_st, .int m_cu, .int m_va, .int m_sp, .int m_un, .ref b_k, .int m_kc, .int m_kn, .int m_by, .int m_kd, .int m_tg, .int m_ju])), (b_row, .inl (tc 0, 2400, .inl q_42))] H := hP
        have hD : va_D A [(b_x, .inr (9, [.ref b_row, .ref b_part, .ref b_mem, .ref b_mrk, .ref b_sf, .ref b_ss, .ref b_sr, .int m_on, .ref b_h, .int m_hc, .ref b_r, .int m_pc, .ref b_in, .int m_giv, .int m_tak, .ref b_out, .int m_put, .int m_st, .int m_cu, .int m_va, .int m_sp, .int m_un, .ref b_k, .int m_kc, .int m_kn, .int m_by, .int m_kd, .int m_tg, .int m_ju])), (b_row, .inl (tc 0, 2400, .inl q_42))] := hD
        exact W.vret hx hb hr (fun t ht hW => ⟨⟨q_42, rfl, by rw [mF_StepMachineModel_layLong, if_pos c_3, if_neg c_10, if_pos c_21, ← e_42, mF_StepMachineModel_layLong_26], by rw [ht]; exact hP, va_K.moved hW.alike hK, hD⟩, hS.F ht⟩) hS.2.2 d_M_layLong_45
  · skip
    exact W.vret hx hb hr (fun t ht hW => ⟨⟨m_row, rfl, by rw [mF_StepMachineModel_layLong, if_neg c_3], by rw [ht]; exact hP, va_K.moved hW.alike hK, hD⟩, hS.F ht⟩) hS.2.2 d_M_layLong_6
def mF_StepMachineModel_layShort_18 (rec_ : Int32 → (Nat → Int32) → (Int32 × (Nat → Int32))) (k_69 : Int32) (q_155 : (Nat → Int32)) : Int32 × (Nat → Int32) := (rec_ (k_69 + 1) q_155)
def mF_StepMachineModel_layShort_17 (rec_ : Int32 → (Nat → Int32) → (Int32 × (Nat → Int32))) (k_69 : Int32) (q_132 : (Nat → Int32)) : Int32 × (Nat → Int32) := (mF_StepMachineModel_layShort_18 rec_ k_69 (mF_StepMachineModel_lay q_132 k_69 4 2 500 2))
def mF_StepMachineModel_layShort_16 (rec_ : Int32 → (Nat → Int32) → (Int32 × (Nat → Int32))) (k_69 : Int32) (q_124 : (Nat → Int32)) : Int32 × (Nat → Int32) := (mF_StepMachineModel_layShort_17 rec_ k_69 (mF_StepMachineModel_one q_124 k_69 5 6))
def mF_StepMachineModel_layShort_15 (rec_ : Int32 → (Nat → Int32) → (Int32 × (Nat → Int32))) (k_69 : Int32) (q_116 : (Nat → Int32)) : Int32 × (Nat → Int32) := (mF_StepMachineModel_layShort_16 rec_ k_69 (mF_StepMachineModel_one q_116 k_69 6 2))
def mF_StepMachineModel_layShort_14 (rec_ : Int32 → (Nat → Int32) → (Int32 × (Nat → Int32))) (k_69 : Int32) (q_103 : (Nat → Int32)) : Int32 × (Nat → Int32) := (mF_StepMachineModel_layShort_15 rec_ k_69 (mF_StepMachineModel_lay q_103 k_69 9 7 600 2))
def mF_StepMachineModel_layShort_13 (rec_ : Int32 → (Nat → Int32) → (Int32 × (Nat → Int32))) (k_69 : Int32) (q_90 : (Nat → Int32)) : Int32 × (Nat → Int32) := (mF_StepMachineModel_layShort_14 rec_ k_69 (mF_StepMachineModel_lay q_90 k_69 12 10 400 5))
def mF_StepMachineModel_layShort_12 (rec_ : Int32 → (Nat → Int32) → (Int32 × (Nat → Int32))) (k_69 : Int32) (q_155 : (Nat → Int32)) : Int32 × (Nat → Int32) := (rec_ (k_69 + 1) q_155)
def mF_StepMachineModel_layShort_11 (rec_ : Int32 → (Nat → Int32) → (Int32 × (Nat → Int32))) (k_69 : Int32) (q_132 : (Nat → Int32)) : Int32 × (Nat → Int32) := (mF_StepMachineModel_layShort_12 rec_ k_69 (mF_StepMachineModel_lay q_132 k_69 4 2 700 2))
def mF_StepMachineModel_layShort_10 (rec_ : Int32 → (Nat → Int32) → (Int32 × (Nat → Int32))) (k_69 : Int32) (q_124 : (Nat → Int32)) : Int32 × (Nat → Int32) := (mF_StepMachineModel_layShort_11 rec_ k_69 (mF_StepMachineModel_one q_124 k_69 5 6))
def mF_StepMachineModel_layShort_9 (rec_ : Int32 → (Nat → Int32) → (Int32 × (Nat → Int32))) (k_69 : Int32) (q_116 : (Nat → Int32)) : Int32 × (Nat → Int32) := (mF_StepMachineModel_layShort_10 rec_ k_69 (mF_StepMachineModel_one q_116 k_69 6 2))
def mF_StepMachineModel_layShort_8 (rec_ : Int32 → (Nat → Int32) → (Int32 × (Nat → Int32))) (k_69 : Int32) (q_103 : (Nat → Int32)) : Int32 × (Nat → Int32) := (mF_StepMachineModel_layShort_9 rec_ k_69 (mF_StepMachineModel_lay q_103 k_69 9 7 600 2))
def mF_StepMachineModel_layShort_7 (rec_ : Int32 → (Nat → Int32) → (Int32 × (Nat → Int32))) (k_69 : Int32) (q_90 : (Nat → Int32)) : Int32 × (Nat → Int32) := (mF_StepMachineModel_layShort_8 rec_ k_69 (mF_StepMachineModel_lay q_90 k_69 12 10 400 5))
def mF_StepMachineModel_layShort_L69  : Nat → Int32 → (Nat → Int32) → Int32 × (Nat → Int32)
  | 0, k_69, m_rowL => (k_69, m_rowL)
  | n_ + 1, k_69, m_rowL => (if 51 ≤ k_69 then (k_69, m_rowL) else (if k_69 = 49 then (mF_StepMachineModel_layShort_13 (mF_StepMachineModel_layShort_L69 n_) k_69 (mF_StepMachineModel_ends m_rowL k_69 2 0)) else (mF_StepMachineModel_layShort_7 (mF_StepMachineModel_layShort_L69 n_) k_69 (mF_StepMachineModel_ends m_rowL k_69 6 0))))
def mF_StepMachineModel_layShort_32 (rec_ : Int32 → (Nat → Int32) → (Int32 × (Nat → Int32))) (k_177 : Int32) (q_254 : (Nat → Int32)) : Int32 × (Nat → Int32) := (rec_ (k_177 + 1) q_254)
def mF_StepMachineModel_layShort_31 (rec_ : Int32 → (Nat → Int32) → (Int32 × (Nat → Int32))) (k_177 : Int32) (q_242 : (Nat → Int32)) : Int32 × (Nat → Int32) := (mF_StepMachineModel_layShort_32 rec_ k_177 (mF_StepMachineModel_lay q_242 k_177 6 2 400 4))
def mF_StepMachineModel_layShort_30 (rec_ : Int32 → (Nat → Int32) → (Int32 × (Nat → Int32))) (k_177 : Int32) (q_230 : (Nat → Int32)) : Int32 × (Nat → Int32) := (mF_StepMachineModel_layShort_31 rec_ k_177 (mF_StepMachineModel_lay q_230 k_177 11 7 100 4))
def mF_StepMachineModel_layShort_29 (rec_ : Int32 → (Nat → Int32) → (Int32 × (Nat → Int32))) (k_177 : Int32) (q_222 : (Nat → Int32)) : Int32 × (Nat → Int32) := (mF_StepMachineModel_layShort_30 rec_ k_177 (mF_StepMachineModel_one q_222 k_177 12 5))
def mF_StepMachineModel_layShort_28 (rec_ : Int32 → (Nat → Int32) → (Int32 × (Nat → Int32))) (k_177 : Int32) (q_254 : (Nat → Int32)) : Int32 × (Nat → Int32) := (rec_ (k_177 + 1) q_254)
def mF_StepMachineModel_layShort_27 (rec_ : Int32 → (Nat → Int32) → (Int32 × (Nat → Int32))) (k_177 : Int32) (q_242 : (Nat → Int32)) : Int32 × (Nat → Int32) := (mF_StepMachineModel_layShort_28 rec_ k_177 (mF_StepMachineModel_lay q_242 k_177 6 2 400 4))
def mF_StepMachineModel_layShort_26 (rec_ : Int32 → (Nat → Int32) → (Int32 × (Nat → Int32))) (k_177 : Int32) (q_230 : (Nat → Int32)) : Int32 × (Nat → Int32) := (mF_StepMachineModel_layShort_27 rec_ k_177 (mF_StepMachineModel_lay q_230 k_177 11 7 100 4))
def mF_StepMachineModel_layShort_25 (rec_ : Int32 → (Nat → Int32) → (Int32 × (Nat → Int32))) (k_177 : Int32) (q_222 : (Nat → Int32)) : Int32 × (Nat → Int32) := (mF_StepMachineModel_layShort_26 rec_ k_177 (mF_StepMachineModel_one q_222 k_177 12 5))
def mF_StepMachineModel_layShort_24 (rec_ : Int32 → (Nat → Int32) → (Int32 × (Nat → Int32))) (k_177 : Int32) (q_254 : (Nat → Int32)) : Int32 × (Nat → Int32) := (rec_ (k_177 + 1) q_254)
def mF_StepMachineModel_layShort_23 (rec_ : Int32 → (Nat → Int32) → (Int32 × (Nat → Int32))) (k_177 : Int32) (q_242 : (Nat → Int32)) : Int32 × (Nat → Int32) := (mF_StepMachineModel_layShort_24 rec_ k_177 (mF_StepMachineModel_lay q_242 k_177 6 2 400 4))
def mF_StepMachineModel_layShort_22 (rec_ : Int32 → (Nat → Int32) → (Int32 × (Nat → Int32))) (k_177 : Int32) (q_230 : (Nat → Int32)) : Int32 × (Nat → Int32) := (mF_StepMachineModel_layShort_23 rec_ k_177 (mF_StepMachineModel_lay q_230 k_177 11 7 100 4))
def mF_StepMachineModel_layShort_21 (rec_ : Int32 → (Nat → Int32) → (Int32 × (Nat → Int32))) (k_177 : Int32) (q_222 : (Nat → Int32)) : Int32 × (Nat → Int32) := (mF_StepMachineModel_layShort_22 rec_ k_177 (mF_StepMachineModel_one q_222 k_177 12 5))
def mF_StepMachineModel_layShort_L177  : Nat → Int32 → (Nat → Int32) → Int32 × (Nat → Int32)
  | 0, k_177, m_rowL => (k_177, m_rowL)
  | n_ + 1, k_177, m_rowL => (if 57 ≤ k_177 then (k_177, m_rowL) else (if k_177 = 53 then ((mF_StepMachineModel_layShort_L177 n_) (k_177 + 1) m_rowL) else (if k_177 = 55 then ((mF_StepMachineModel_layShort_L177 n_) (k_177 + 1) m_rowL) else (if k_177 = 52 then (mF_StepMachineModel_layShort_29 (mF_StepMachineModel_layShort_L177 n_) k_177 (mF_StepMachineModel_ends m_rowL k_177 0 1)) else (if k_177 = 54 then (mF_StepMachineModel_layShort_25 (mF_StepMachineModel_layShort_L177 n_) k_177 (mF_StepMachineModel_ends m_rowL k_177 2 1)) else (mF_StepMachineModel_layShort_21 (mF_StepMachineModel_layShort_L177 n_) k_177 (mF_StepMachineModel_ends m_rowL k_177 3 1)))))))
def mF_StepMachineModel_layShort_49 (rec_ : Int32 → (Nat → Int32) → (Int32 × (Nat → Int32))) (k_347 : Int32) (q_408 : (Nat → Int32)) : Int32 × (Nat → Int32) := (rec_ (k_347 + 1) q_408)
def mF_StepMachineModel_layShort_48 (rec_ : Int32 → (Nat → Int32) → (Int32 × (Nat → Int32))) (k_347 : Int32) (q_396 : (Nat → Int32)) : Int32 × (Nat → Int32) := (mF_StepMachineModel_layShort_49 rec_ k_347 (mF_StepMachineModel_lay q_396 k_347 6 2 400 4))
def mF_StepMachineModel_layShort_47 (rec_ : Int32 → (Nat → Int32) → (Int32 × (Nat → Int32))) (k_347 : Int32) (q_383 : (Nat → Int32)) : Int32 × (Nat → Int32) := (mF_StepMachineModel_layShort_48 rec_ k_347 (mF_StepMachineModel_lay q_383 k_347 9 7 500 2))
def mF_StepMachineModel_layShort_46 (rec_ : Int32 → (Nat → Int32) → (Int32 × (Nat → Int32))) (k_347 : Int32) (q_408 : (Nat → Int32)) : Int32 × (Nat → Int32) := (rec_ (k_347 + 1) q_408)
def mF_StepMachineModel_layShort_45 (rec_ : Int32 → (Nat → Int32) → (Int32 × (Nat → Int32))) (k_347 : Int32) (q_396 : (Nat → Int32)) : Int32 × (Nat → Int32) := (mF_StepMachineModel_layShort_46 rec_ k_347 (mF_StepMachineModel_lay q_396 k_347 6 2 400 4))
def mF_StepMachineModel_layShort_44 (rec_ : Int32 → (Nat → Int32) → (Int32 × (Nat → Int32))) (k_347 : Int32) (q_369 : (Nat → Int32)) : Int32 × (Nat → Int32) := (if k_347 = 59 then (mF_StepMachineModel_layShort_47 rec_ k_347 (mF_StepMachineModel_one q_369 k_347 12 5)) else (mF_StepMachineModel_layShort_45 rec_ k_347 (mF_StepMachineModel_lay q_369 k_347 9 7 500 2)))
def mF_StepMachineModel_layShort_43 (rec_ : Int32 → (Nat → Int32) → (Int32 × (Nat → Int32))) (k_347 : Int32) (q_357 : (Nat → Int32)) : Int32 × (Nat → Int32) := (mF_StepMachineModel_layShort_44 rec_ k_347 (mF_StepMachineModel_fix q_357 k_347 10 3 (k_347 - 57)))
def mF_StepMachineModel_layShort_L347  : Nat → Int32 → (Nat → Int32) → Int32 × (Nat → Int32)
  | 0, k_347, m_rowL => (k_347, m_rowL)
  | n_ + 1, k_347, m_rowL => (if 60 ≤ k_347 then (k_347, m_rowL) else (mF_StepMachineModel_layShort_43 (mF_StepMachineModel_layShort_L347 n_) k_347 (mF_StepMachineModel_ends m_rowL k_347 4 1)))
def mF_StepMachineModel_layShort_55 (rec_ : Int32 → (Nat → Int32) → (Int32 × (Nat → Int32))) (k_420 : Int32) (q_474 : (Nat → Int32)) : Int32 × (Nat → Int32) := (rec_ (k_420 + 1) q_474)
def mF_StepMachineModel_layShort_54 (rec_ : Int32 → (Nat → Int32) → (Int32 × (Nat → Int32))) (k_420 : Int32) (q_463 : (Nat → Int32)) : Int32 × (Nat → Int32) := (mF_StepMachineModel_layShort_55 rec_ k_420 (mF_StepMachineModel_lay q_463 k_420 4 2 700 2))
def mF_StepMachineModel_layShort_53 (rec_ : Int32 → (Nat → Int32) → (Int32 × (Nat → Int32))) (k_420 : Int32) (q_452 : (Nat → Int32)) : Int32 × (Nat → Int32) := (mF_StepMachineModel_layShort_54 rec_ k_420 (mF_StepMachineModel_fix q_452 k_420 5 2 (k_420 - 60)))
def mF_StepMachineModel_layShort_52 (rec_ : Int32 → (Nat → Int32) → (Int32 × (Nat → Int32))) (k_420 : Int32) (q_439 : (Nat → Int32)) : Int32 × (Nat → Int32) := (mF_StepMachineModel_layShort_53 rec_ k_420 (mF_StepMachineModel_lay q_439 k_420 9 7 500 2))
def mF_StepMachineModel_layShort_51 (rec_ : Int32 → (Nat → Int32) → (Int32 × (Nat → Int32))) (k_420 : Int32) (q_430 : (Nat → Int32)) : Int32 × (Nat → Int32) := (mF_StepMachineModel_layShort_52 rec_ k_420 (mF_StepMachineModel_fix q_430 k_420 10 3 3))
def mF_StepMachineModel_layShort_L420  : Nat → Int32 → (Nat → Int32) → Int32 × (Nat → Int32)
  | 0, k_420, m_rowL => (k_420, m_rowL)
  | n_ + 1, k_420, m_rowL => (if 64 ≤ k_420 then (k_420, m_rowL) else (mF_StepMachineModel_layShort_51 (mF_StepMachineModel_layShort_L420 n_) k_420 (mF_StepMachineModel_ends m_rowL k_420 4 1)))
def mF_StepMachineModel_layShort_70 (rec_ : Int32 → (Nat → Int32) → (Int32 × (Nat → Int32))) (k_486 : Int32) (q_574 : (Nat → Int32)) : Int32 × (Nat → Int32) := (rec_ (k_486 + 1) q_574)
def mF_StepMachineModel_layShort_69 (rec_ : Int32 → (Nat → Int32) → (Int32 × (Nat → Int32))) (k_486 : Int32) (q_567 : (Nat → Int32)) : Int32 × (Nat → Int32) := (mF_StepMachineModel_layShort_70 rec_ k_486 (mF_StepMachineModel_one q_567 k_486 2 5))
def mF_StepMachineModel_layShort_68 (rec_ : Int32 → (Nat → Int32) → (Int32 × (Nat → Int32))) (k_486 : Int32) (q_556 : (Nat → Int32)) : Int32 × (Nat → Int32) := (mF_StepMachineModel_layShort_69 rec_ k_486 (mF_StepMachineModel_lay q_556 k_486 4 3 400 2))
def mF_StepMachineModel_layShort_67 (rec_ : Int32 → (Nat → Int32) → (Int32 × (Nat → Int32))) (k_486 : Int32) (q_543 : (Nat → Int32)) : Int32 × (Nat → Int32) := (mF_StepMachineModel_layShort_68 rec_ k_486 (mF_StepMachineModel_lay q_543 k_486 6 5 400 7))
def mF_StepMachineModel_layShort_66 (rec_ : Int32 → (Nat → Int32) → (Int32 × (Nat → Int32))) (k_486 : Int32) (q_530 : (Nat → Int32)) : Int32 × (Nat → Int32) := (mF_StepMachineModel_layShort_67 rec_ k_486 (mF_StepMachineModel_lay q_530 k_486 9 7 600 2))
def mF_StepMachineModel_layShort_65 (rec_ : Int32 → (Nat → Int32) → (Int32 × (Nat → Int32))) (k_486 : Int32) (q_517 : (Nat → Int32)) : Int32 × (Nat → Int32) := (mF_StepMachineModel_layShort_66 rec_ k_486 (mF_StepMachineModel_lay q_517 k_486 11 10 400 4))
def mF_StepMachineModel_layShort_64 (rec_ : Int32 → (Nat → Int32) → (Int32 × (Nat → Int32))) (k_486 : Int32) (q_508 : (Nat → Int32)) : Int32 × (Nat → Int32) := (mF_StepMachineModel_layShort_65 rec_ k_486 (mF_StepMachineModel_one q_508 k_486 12 8))
def mF_StepMachineModel_layShort_63 (rec_ : Int32 → (Nat → Int32) → (Int32 × (Nat → Int32))) (k_486 : Int32) (q_574 : (Nat → Int32)) : Int32 × (Nat → Int32) := (rec_ (k_486 + 1) q_574)
def mF_StepMachineModel_layShort_62 (rec_ : Int32 → (Nat → Int32) → (Int32 × (Nat → Int32))) (k_486 : Int32) (q_567 : (Nat → Int32)) : Int32 × (Nat → Int32) := (mF_StepMachineModel_layShort_63 rec_ k_486 (mF_StepMachineModel_one q_567 k_486 2 5))
def mF_StepMachineModel_layShort_61 (rec_ : Int32 → (Nat → Int32) → (Int32 × (Nat → Int32))) (k_486 : Int32) (q_556 : (Nat → Int32)) : Int32 × (Nat → Int32) := (mF_StepMachineModel_layShort_62 rec_ k_486 (mF_StepMachineModel_lay q_556 k_486 4 3 400 2))
def mF_StepMachineModel_layShort_60 (rec_ : Int32 → (Nat → Int32) → (Int32 × (Nat → Int32))) (k_486 : Int32) (q_543 : (Nat → Int32)) : Int32 × (Nat → Int32) := (mF_StepMachineModel_layShort_61 rec_ k_486 (mF_StepMachineModel_lay q_543 k_486 6 5 400 7))
def mF_StepMachineModel_layShort_59 (rec_ : Int32 → (Nat → Int32) → (Int32 × (Nat → Int32))) (k_486 : Int32) (q_530 : (Nat → Int32)) : Int32 × (Nat → Int32) := (mF_StepMachineModel_layShort_60 rec_ k_486 (mF_StepMachineModel_lay q_530 k_486 9 7 600 2))
def mF_StepMachineModel_layShort_58 (rec_ : Int32 → (Nat → Int32) → (Int32 × (Nat → Int32))) (k_486 : Int32) (q_517 : (Nat → Int32)) : Int32 × (Nat → Int32) := (mF_StepMachineModel_layShort_59 rec_ k_486 (mF_StepMachineModel_lay q_517 k_486 11 10 400 4))
def mF_StepMachineModel_layShort_57 (rec_ : Int32 → (Nat → Int32) → (Int32 × (Nat → Int32))) (k_486 : Int32) (q_508 : (Nat → Int32)) : Int32 × (Nat → Int32) := (mF_StepMachineModel_layShort_58 rec_ k_486 (mF_StepMachineModel_one q_508 k_486 12 8))
def mF_StepMachineModel_layShort_L486  : Nat → Int32 → (Nat → Int32) → Int32 × (Nat → Int32)
  | 0, k_486, m_rowL => (k_486, m_rowL)
  | n_ + 1, k_486, m_rowL => (if 67 ≤ k_486 then (k_486, m_rowL) else (if k_486 = 65 then (mF_StepMachineModel_layShort_64 (mF_StepMachineModel_layShort_L486 n_) k_486 (mF_StepMachineModel_ends m_rowL k_486 6 1)) else (mF_StepMachineModel_layShort_57 (mF_StepMachineModel_layShort_L486 n_) k_486 (mF_StepMachineModel_ends m_rowL k_486 7 1))))
def mF_StepMachineModel_layShort_82 (rec_ : Int32 → (Nat → Int32) → (Int32 × (Nat → Int32))) (k_676 : Int32) (q_730 : (Nat → Int32)) : Int32 × (Nat → Int32) := (rec_ (k_676 + 1) q_730)
def mF_StepMachineModel_layShort_87 (rec_ : Int32 → (Nat → Int32) → (Int32 × (Nat → Int32))) (k_676 : Int32) (q_730 : (Nat → Int32)) : Int32 × (Nat → Int32) := (rec_ (k_676 + 1) q_730)
def mF_StepMachineModel_layShort_84 (rec_ : Int32 → (Nat → Int32) → (Int32 × (Nat → Int32))) (k_676 : Int32) (q_778 : (Nat → Int32)) : Int32 × (Nat → Int32) := (rec_ (k_676 + 1) q_778)
def mF_StepMachineModel_layShort_83 (rec_ : Int32 → (Nat → Int32) → (Int32 × (Nat → Int32))) (k_676 : Int32) (q_754 : (Nat → Int32)) : Int32 × (Nat → Int32) := (mF_StepMachineModel_layShort_84 rec_ k_676 (mF_StepMachineModel_lay q_754 k_676 6 2 300 4))
def mF_StepMachineModel_layShort_86 (rec_ : Int32 → (Nat → Int32) → (Int32 × (Nat → Int32))) (k_676 : Int32) (q_778 : (Nat → Int32)) : Int32 × (Nat → Int32) := (rec_ (k_676 + 1) q_778)
def mF_StepMachineModel_layShort_85 (rec_ : Int32 → (Nat → Int32) → (Int32 × (Nat → Int32))) (k_676 : Int32) (q_754 : (Nat → Int32)) : Int32 × (Nat → Int32) := (mF_StepMachineModel_layShort_86 rec_ k_676 (mF_StepMachineModel_lay q_754 k_676 6 2 300 4))
def mF_StepMachineModel_layShort_81 (rec_ : Int32 → (Nat → Int32) → (Int32 × (Nat → Int32))) (k_676 : Int32) (q_705 : (Nat → Int32)) : Int32 × (Nat → Int32) := (if k_676 = 69 then (mF_StepMachineModel_layShort_82 rec_ k_676 (mF_StepMachineModel_lay q_705 k_676 11 7 200 4)) else (if k_676 = 72 then (mF_StepMachineModel_layShort_87 rec_ k_676 (mF_StepMachineModel_lay q_705 k_676 11 7 200 4)) else (if k_676 = 70 then (mF_StepMachineModel_layShort_83 rec_ k_676 (mF_StepMachineModel_lay q_705 k_676 11 7 100 4)) else (if k_676 = 73 then (mF_StepMachineModel_layShort_85 rec_ k_676 (mF_StepMachineModel_lay q_705 k_676 11 7 100 4)) else (rec_ (k_676 + 1) q_705)))))
def mF_StepMachineModel_layShort_89 (rec_ : Int32 → (Nat → Int32) → (Int32 × (Nat → Int32))) (k_676 : Int32) (q_730 : (Nat → Int32)) : Int32 × (Nat → Int32) := (rec_ (k_676 + 1) q_730)
def mF_StepMachineModel_layShort_94 (rec_ : Int32 → (Nat → Int32) → (Int32 × (Nat → Int32))) (k_676 : Int32) (q_730 : (Nat → Int32)) : Int32 × (Nat → Int32) := (rec_ (k_676 + 1) q_730)
def mF_StepMachineModel_layShort_91 (rec_ : Int32 → (Nat → Int32) → (Int32 × (Nat → Int32))) (k_676 : Int32) (q_778 : (Nat → Int32)) : Int32 × (Nat → Int32) := (rec_ (k_676 + 1) q_778)
def mF_StepMachineModel_layShort_90 (rec_ : Int32 → (Nat → Int32) → (Int32 × (Nat → Int32))) (k_676 : Int32) (q_754 : (Nat → Int32)) : Int32 × (Nat → Int32) := (mF_StepMachineModel_layShort_91 rec_ k_676 (mF_StepMachineModel_lay q_754 k_676 6 2 300 4))
def mF_StepMachineModel_layShort_93 (rec_ : Int32 → (Nat → Int32) → (Int32 × (Nat → Int32))) (k_676 : Int32) (q_778 : (Nat → Int32)) : Int32 × (Nat → Int32) := (rec_ (k_676 + 1) q_778)
def mF_StepMachineModel_layShort_92 (rec_ : Int32 → (Nat → Int32) → (Int32 × (Nat → Int32))) (k_676 : Int32) (q_754 : (Nat → Int32)) : Int32 × (Nat → Int32) := (mF_StepMachineModel_layShort_93 rec_ k_676 (mF_StepMachineModel_lay q_754 k_676 6 2 300 4))
def mF_StepMachineModel_layShort_88 (rec_ : Int32 → (Nat → Int32) → (Int32 × (Nat → Int32))) (k_676 : Int32) (q_705 : (Nat → Int32)) : Int32 × (Nat → Int32) := (if k_676 = 69 then (mF_StepMachineModel_layShort_89 rec_ k_676 (mF_StepMachineModel_lay q_705 k_676 11 7 200 4)) else (if k_676 = 72 then (mF_StepMachineModel_layShort_94 rec_ k_676 (mF_StepMachineModel_lay q_705 k_676 11 7 200 4)) else (if k_676 = 70 then (mF_StepMachineModel_layShort_90 rec_ k_676 (mF_StepMachineModel_lay q_705 k_676 11 7 100 4)) else (if k_676 = 73 then (mF_StepMachineModel_layShort_92 rec_ k_676 (mF_StepMachineModel_lay q_705 k_676 11 7 100 4)) else (rec_ (k_676 + 1) q_705)))))
def mF_StepMachineModel_layShort_80 (rec_ : Int32 → (Nat → Int32) → (Int32 × (Nat → Int32))) (k_676 : Int32) (q_686 : (Nat → Int32)) : Int32 × (Nat → Int32) := (if k_676 ≤ 70 then (mF_StepMachineModel_layShort_81 rec_ k_676 (mF_StepMachineModel_fix q_686 k_676 12 1 0)) else (mF_StepMachineModel_layShort_88 rec_ k_676 (mF_StepMachineModel_fix q_686 k_676 12 1 1)))
def mF_StepMachineModel_layShort_L676  : Nat → Int32 → (Nat → Int32) → Int32 × (Nat → Int32)
  | 0, k_676, m_rowL => (k_676, m_rowL)
  | n_ + 1, k_676, m_rowL => (if 74 ≤ k_676 then (k_676, m_rowL) else (mF_StepMachineModel_layShort_80 (mF_StepMachineModel_layShort_L676 n_) k_676 (mF_StepMachineModel_ends m_rowL k_676 4 2)))
def mF_StepMachineModel_layShort_99  (q_835 : (Nat → Int32)) : (Nat → Int32) := q_835
def mF_StepMachineModel_layShort_98  (q_822 : (Nat → Int32)) : (Nat → Int32) := (mF_StepMachineModel_layShort_99 (mF_StepMachineModel_lay q_822 74 6 2 300 4))
def mF_StepMachineModel_layShort_97  (q_807 : (Nat → Int32)) : (Nat → Int32) := (mF_StepMachineModel_layShort_98 (mF_StepMachineModel_lay q_807 74 8 7 400 7))
def mF_StepMachineModel_layShort_96  (q_793 : (Nat → Int32)) : (Nat → Int32) := (mF_StepMachineModel_layShort_97 (mF_StepMachineModel_lay q_793 74 12 9 400 5))
def mF_StepMachineModel_layShort_95  (q_676 : Int32 × (Nat → Int32)) : (Nat → Int32) := (mF_StepMachineModel_layShort_96 (mF_StepMachineModel_ends q_676.2 74 6 2))
def mF_StepMachineModel_layShort_79  (q_670 : (Nat → Int32)) : (Nat → Int32) := (mF_StepMachineModel_layShort_95 (mF_StepMachineModel_layShort_L676 (((74 : Int32).toInt - (69 : Int32).toInt).toNat + 1) (69 : Int32) q_670))
def mF_StepMachineModel_layShort_78  (q_657 : (Nat → Int32)) : (Nat → Int32) := (mF_StepMachineModel_layShort_79 (mF_StepMachineModel_lay q_657 68 3 2 400 7))
def mF_StepMachineModel_layShort_77  (q_644 : (Nat → Int32)) : (Nat → Int32) := (mF_StepMachineModel_layShort_78 (mF_StepMachineModel_lay q_644 68 6 4 400 4))
def mF_StepMachineModel_layShort_76  (q_631 : (Nat → Int32)) : (Nat → Int32) := (mF_StepMachineModel_layShort_77 (mF_StepMachineModel_lay q_631 68 11 7 100 4))
def mF_StepMachineModel_layShort_75  (q_622 : (Nat → Int32)) : (Nat → Int32) := (mF_StepMachineModel_layShort_76 (mF_StepMachineModel_one q_622 68 12 5))
def mF_StepMachineModel_layShort_74  (q_614 : (Nat → Int32)) : (Nat → Int32) := (mF_StepMachineModel_layShort_75 (mF_StepMachineModel_ends q_614 68 2 2))
def mF_StepMachineModel_layShort_73  (q_601 : (Nat → Int32)) : (Nat → Int32) := (mF_StepMachineModel_layShort_74 (mF_StepMachineModel_lay q_601 67 6 2 400 4))
def mF_StepMachineModel_layShort_72  (q_588 : (Nat → Int32)) : (Nat → Int32) := (mF_StepMachineModel_layShort_73 (mF_StepMachineModel_lay q_588 67 11 7 100 4))
def mF_StepMachineModel_layShort_71  (q_486 : Int32 × (Nat → Int32)) : (Nat → Int32) := (mF_StepMachineModel_layShort_72 (mF_StepMachineModel_ends q_486.2 67 0 2))
def mF_StepMachineModel_layShort_56  (q_420 : Int32 × (Nat → Int32)) : (Nat → Int32) := (mF_StepMachineModel_layShort_71 (mF_StepMachineModel_layShort_L486 (((67 : Int32).toInt - (65 : Int32).toInt).toNat + 1) (65 : Int32) q_420.2))
def mF_StepMachineModel_layShort_50  (q_347 : Int32 × (Nat → Int32)) : (Nat → Int32) := (mF_StepMachineModel_layShort_56 (mF_StepMachineModel_layShort_L420 (((64 : Int32).toInt - (60 : Int32).toInt).toNat + 1) (60 : Int32) q_347.2))
def mF_StepMachineModel_layShort_42  (q_341 : (Nat → Int32)) : (Nat → Int32) := (mF_StepMachineModel_layShort_50 (mF_StepMachineModel_layShort_L347 (((60 : Int32).toInt - (57 : Int32).toInt).toNat + 1) (57 : Int32) q_341))
def mF_StepMachineModel_layShort_41  (q_333 : (Nat → Int32)) : (Nat → Int32) := (mF_StepMachineModel_layShort_42 (mF_StepMachineModel_one q_333 55 2 5))
def mF_StepMachineModel_layShort_40  (q_320 : (Nat → Int32)) : (Nat → Int32) := (mF_StepMachineModel_layShort_41 (mF_StepMachineModel_lay q_320 55 4 3 400 8))
def mF_StepMachineModel_layShort_39  (q_311 : (Nat → Int32)) : (Nat → Int32) := (mF_StepMachineModel_layShort_40 (mF_StepMachineModel_one q_311 55 5 6))
def mF_StepMachineModel_layShort_38  (q_302 : (Nat → Int32)) : (Nat → Int32) := (mF_StepMachineModel_layShort_39 (mF_StepMachineModel_one q_302 55 6 4))
def mF_StepMachineModel_layShort_37  (q_292 : (Nat → Int32)) : (Nat → Int32) := (mF_StepMachineModel_layShort_38 (mF_StepMachineModel_fix q_292 55 7 5 2))
def mF_StepMachineModel_layShort_36  (q_282 : (Nat → Int32)) : (Nat → Int32) := (mF_StepMachineModel_layShort_37 (mF_StepMachineModel_one q_282 55 12 9))
def mF_StepMachineModel_layShort_35  (q_274 : (Nat → Int32)) : (Nat → Int32) := (mF_StepMachineModel_layShort_36 (mF_StepMachineModel_ends q_274 55 3 1))
def mF_StepMachineModel_layShort_34  (q_267 : (Nat → Int32)) : (Nat → Int32) := (mF_StepMachineModel_layShort_35 (mF_StepMachineModel_layJump q_267 64 5))
def mF_StepMachineModel_layShort_33  (q_177 : Int32 × (Nat → Int32)) : (Nat → Int32) := (mF_StepMachineModel_layShort_34 (mF_StepMachineModel_layJump q_177.2 53 1))
def mF_StepMachineModel_layShort_20  (q_171 : (Nat → Int32)) : (Nat → Int32) := (mF_StepMachineModel_layShort_33 (mF_StepMachineModel_layShort_L177 (((57 : Int32).toInt - (52 : Int32).toInt).toNat + 1) (52 : Int32) q_171))
def mF_StepMachineModel_layShort_19  (q_69 : Int32 × (Nat → Int32)) : (Nat → Int32) := (mF_StepMachineModel_layShort_20 (mF_StepMachineModel_fix q_69.2 51 0 16 1))
def mF_StepMachineModel_layShort_6  (q_63 : (Nat → Int32)) : (Nat → Int32) := (mF_StepMachineModel_layShort_19 (mF_StepMachineModel_layShort_L69 (((51 : Int32).toInt - (49 : Int32).toInt).toNat + 1) (49 : Int32) q_63))
def mF_StepMachineModel_layShort_5  (q_51 : (Nat → Int32)) : (Nat → Int32) := (mF_StepMachineModel_layShort_6 (mF_StepMachineModel_lay q_51 48 4 2 500 2))
def mF_StepMachineModel_layShort_4  (q_43 : (Nat → Int32)) : (Nat → Int32) := (mF_StepMachineModel_layShort_5 (mF_StepMachineModel_one q_43 48 5 3))
def mF_StepMachineModel_layShort_3  (q_34 : (Nat → Int32)) : (Nat → Int32) := (mF_StepMachineModel_layShort_4 (mF_StepMachineModel_one q_34 48 6 2))
def mF_StepMachineModel_layShort_2  (q_19 : (Nat → Int32)) : (Nat → Int32) := (mF_StepMachineModel_layShort_3 (mF_StepMachineModel_lay q_19 48 10 7 400 9))
def mF_StepMachineModel_layShort_1  (q_5 : (Nat → Int32)) : (Nat → Int32) := (mF_StepMachineModel_layShort_2 (mF_StepMachineModel_lay q_5 48 12 11 400 5))
def mF_StepMachineModel_layShort (m_row : Nat → Int32) : (Nat → Int32) := (mF_StepMachineModel_layShort_1 (mF_StepMachineModel_ends m_row 48 0 0))
set_option maxHeartbeats 4000000 in
set_option maxRecDepth 100000 in
theorem mc_StepMachineModel_layShort (l : Launch) (D : va_G) (tc : Nat → ClassId) (tb : Nat → Nat) (z0 : Nat) (sz : Nat) (b_x b_row b_part b_mem b_mrk b_sf b_ss b_sr b_h b_r b_in b_out b_k : Nat) (m_on : Int32) (m_hc : Int32) (m_pc : Int32) (m_giv : Int32) (m_tak : Int32) (m_put : Int32) (m_st : Int32) (m_cu : Int32) (m_va : Int32) (m_sp : Int32) (m_un : Int32) (m_kc : Int32) (m_kn : Int32) (m_by : Int32) (m_kd : Int32) (m_tg : Int32) (m_ju : Int32) (m_row : Nat → Int32) : Met l y_M_layShort (wM y_M_layShort b_M_layShort 2 none) ({ frames := 3, cells := 0, slots := 0, locals := 70 }) (va_Pc [.ref b_x] (Pw D tc tb z0 [(b_x, .inr (9, [.ref b_row, .ref b_part, .ref b_mem, .ref b_mrk, .ref b_sf, .ref b_ss, .ref b_sr, .int m_on, .ref b_h, .int m_hc, .ref b_r, .int m_pc, .ref b_in, .int m_giv, .int m_tak, .ref b_out, .int m_put, .int m_st, .int m_cu, .int m_va, .int m_sp, .int m_un, .ref b_k, .int m_kc, .int m_kn, .int m_by, .int m_kd, .int m_tg, .int m_ju])), (b_row, .inl (tc 0, 2400, .inl m_row))] sz)) (va_Qv (fun u : (Nat → Int32) => u = (mF_StepMachineModel_layShort m_row)) (Bw D tc (va_A [(b_x, .inr (9, [.ref b_row, .ref b_part, .ref b_mem, .ref b_mrk, .ref b_sf, .ref b_ss, .ref b_sr, .int m_on, .ref b_h, .int m_hc, .ref b_r, .int m_pc, .ref b_in, .int m_giv, .int m_tak, .ref b_out, .int m_put, .int m_st, .int m_cu, .int m_va, .int m_sp, .int m_un, .ref b_k, .int m_kc, .int m_kn, .int m_by, .int m_kd, .int m_tg, .int m_ju])), (b_row, .inl (tc 0, 2400, .inl m_row))] sz) (fun u => [(b_x, .inr (9, [.ref b_row, .ref b_part, .ref b_mem, .ref b_mrk, .ref b_sf, .ref b_ss, .ref b_sr, .int m_on, .ref b_h, .int m_hc, .ref b_r, .int m_pc, .ref b_in, .int m_giv, .int m_tak, .ref b_out, .int m_put, .int m_st, .int m_cu, .int m_va, .int m_sp, .int m_un, .ref b_k, .int m_kc, .int m_kn, .int m_by, .int m_kd, .int m_tg, .int m_ju])), (b_row, .inl (tc 0, 2400, .inl u))])) (va_A [(b_x, .inr (9, [.ref b_row, .ref b_part, .ref b_mem, .ref b_mrk, .ref b_sf, .ref b_ss, .ref b_sr, .int m_on, .ref b_h, .int m_hc, .ref b_r, .int m_pc, .ref b_in, .int m_giv, .int m_tak, .ref b_out, .int m_put, .int m_st, .int m_cu, .int m_va, .int m_sp, .int m_un, .ref b_k, .int m_kc, .int m_kn, .int m_by, .int m_kd, .int m_tg, .int m_ju])), (b_row, .inl (tc 0, 2400, .inl m_row))] sz)) 0 0 (va_A [(b_x, .inr (9, [.ref b_row, .ref b_part, .ref b_mem, .ref b_mrk, .ref b_sf, .ref b_ss, .ref b_sr, .int m_on, .ref b_h, .int m_hc, .ref b_r, .int m_pc, .ref b_in, .int m_giv, .int m_tak, .ref b_out, .int m_put, .int m_st, .int m_cu, .int m_va, .int m_sp, .int m_un, .ref b_k, .int m_kc, .int m_kn, .int m_by, .int m_kd, .int m_tg, .int m_ju])), (b_row, .inl (tc 0, 2400, .inl m_row))] sz) := by
  refine Met.ofW (cc := b_M_layShort) (maxL := 2) (ret := none) (by decide) rfl ?_
  intro p e s m args below meth c s₁ B hml hv
  obtain ⟨rfl, hsz, hP, hK, hB, hD0, hZ0⟩ := hv
  have hx := B.exec
  have hb := B.bytes
  have hr := B.returns
  have hts : ∀ w ∈ wALL, w.before _ s = true := fun w h => atoms_spec (ws := (wM y_M_layShort b_M_layShort 2 none)) B.pre w (List.mem_cons_of_mem _ h)
  have hown : s.vm.findClass "StepMachineModel" = some m.cls := findClass_of_methodNamed B.named
  have hlocks := B.notSynchronized
  subst hsz
  have hD := hD0.self (sz := s.heap.size)
  generalize hAe : va_A [(b_x, .inr (9, [.ref b_row, .ref b_part, .ref b_mem, .ref b_mrk, .ref b_sf, .ref b_ss, .ref b_sr, .int m_on, .ref b_h, .int m_hc, .ref b_r, .int m_pc, .ref b_in, .int m_giv, .int m_tak, .ref b_out, .int m_put, .int m_st, .int m_cu, .int m_va, .int m_sp, .int m_un, .ref b_k, .int m_kc, .int m_kn, .int m_by, .int m_kd, .int m_tg, .int m_ju])), (b_row, .inl (tc 0, 2400, .inl m_row))] s.heap.size = A at hD ⊢
  have hZ : ∀ q : Nat, A q → z0 ≤ q := by rw [← hAe]; exact hZ0
  have hA : ∀ q : Nat, s.heap.size ≤ q → A q := fun q h => by rw [← hAe]; exact Or.inr h
  have hS : va_S A s.heap s.heap [] := va_S.rf
  have hl := lv_entry ([.ref b_x]) (n := 2) (Nat.le_of_ble_eq_true rfl)
  rw [lg_entry_eq]
  generalize (lg_sl ([.ref b_x]) ++ List.replicate (2 - (lg_sl ([.ref b_x])).length) Slot.unset).toArray = ls at hl ⊢
  have hl : lv_has ls 2 [(0, .ref b_x)] := hl
  refine lv_aload_n hx hb d_M_layShort_0 rfl (lv_at hl 0 rfl) ?_
  refine lv_bipush (v := 48) hx hb d_M_layShort_1 (by decide) ?_
  refine lv_iconst (v := 0) hx hb d_M_layShort_3 (by decide) ?_
  refine lv_iconst (v := 0) hx hb d_M_layShort_4 (by decide) ?_
  obtain ⟨q_5, e_5⟩ : ∃ z, z = (mF_StepMachineModel_ends m_row 48 0 0) := ⟨_, rfl⟩
  refine wVv (As := [.int 48, .int 0, .int 0]) (rest := []) e_5 ⟨hx, hb, hml, hown, hts⟩ (mc_StepMachineModel_ends l D tc tb z0 _ b_x b_row b_part b_mem b_mrk b_sf b_ss b_sr b_h b_r b_in b_out b_k m_on m_hc m_pc m_giv m_tak m_put m_st m_cu m_va m_sp m_un m_kc m_kn m_by m_kd m_tg m_ju m_row 48 0 0 (by decide)) (cwV 3 hts (goodV a_624 a_625 a_914 a_10 a_626) rfl rfl rfl hv_M_ends ⟨Nat.le_of_ble_eq_true rfl, Nat.le_of_ble_eq_true rfl⟩) hP hD hS hA hZ hK hB [0, 1] rfl (by decide) (fun _ => rfl) rfl rfl rfl hl.1 rfl (Nat.le_of_ble_eq_true rfl) d_M_layShort_5 ⟨Nat.zero_le _, Nat.zero_le _⟩ (fun H locs hP hD hS => ?_)
  have hP : va_P D vwCl [(b_x, .inr (9, [.ref b_row, .ref b_part, .ref b_mem, .ref b_mrk, .ref b_sf, .ref b_ss, .ref b_sr, .int m_on, .ref b_h, .int m_hc, .ref b_r, .int m_pc, .ref b_in, .int m_giv, .int m_tak, .ref b_out, .int m_put, .int m_st, .int m_cu, .int m_va, .int m_sp, .int m_un, .ref b_k, .int m_kc, .int m_kn, .int m_by, .int m_kd, .int m_tg, .int m_ju])), (b_row, .inl (tc 0, 2400, .inl q_5))] H := hP
  have hD : va_D A [(b_x, .inr (9, [.ref b_row, .ref b_part, .ref b_mem, .ref b_mrk, .ref b_sf, .ref b_ss, .ref b_sr, .int m_on, .ref b_h, .int m_hc, .ref b_r, .int m_pc, .ref b_in, .int m_giv, .int m_tak, .ref b_out, .int m_put, .int m_st, .int m_cu, .int m_va, .int m_sp, .int m_un, .ref b_k, .int m_kc, .int m_kn, .int m_by, .int m_kd, .int m_tg, .int m_ju])), (b_row, .inl (tc 0, 2400, .inl q_5))] := hD
  refine lv_aload_n hx hb d_M_layShort_8 rfl (lv_at hl 0 rfl) ?_
  refine lv_bipush (v := 48) hx hb d_M_layShort_9 (by decide) ?_
  refine lv_bipush (v := 12) hx hb d_M_layShort_11 (by decide) ?_
  refine lv_bipush (v := 11) hx hb d_M_layShort_13 (by decide) ?_
  refine lv_sipush (v := 400) hx hb d_M_layShort_15 (by decide) ?_
  refine lv_iconst (v := 5) hx hb d_M_layShort_18 (by decide) ?_
  obtain ⟨q_19, e_19⟩ : ∃ z, z = (mF_StepMachineModel_lay q_5 48 12 11 400 5) := ⟨_, rfl⟩
  refine wVv (As := [.int 48, .int 12, .int 11, .int 400, .int 5]) (rest := []) e_19 ⟨hx, hb, hml, hown, hts⟩ (mc_StepMachineModel_lay l D tc tb z0 _ b_x b_row b_part b_mem b_mrk b_sf b_ss b_sr b_h b_r b_in b_out b_k m_on m_hc m_pc m_giv m_tak m_put m_st m_cu m_va m_sp m_un m_kc m_kn m_by m_kd m_tg m_ju q_5 48 12 11 400 5 (by decide) (by decide) (by decide)) (cwV 5 hts (goodV a_603 a_604 a_912 a_10 a_605) rfl rfl rfl hv_M_lay ⟨Nat.le_of_ble_eq_true rfl, Nat.le_of_ble_eq_true rfl⟩) hP hD hS hA hZ hK hB [0, 1] rfl (by decide) (fun _ => rfl) rfl rfl rfl hl.1 rfl (Nat.le_of_ble_eq_true rfl) d_M_layShort_19 ⟨Nat.zero_le _, Nat.zero_le _⟩ (fun H locs hP hD hS => ?_)
  have hP : va_P D vwCl [(b_x, .inr (9, [.ref b_row, .ref b_part, .ref b_mem, .ref b_mrk, .ref b_sf, .ref b_ss, .ref b_sr, .int m_on, .ref b_h, .int m_hc, .ref b_r, .int m_pc, .ref b_in, .int m_giv, .int m_tak, .ref b_out, .int m_put, .int m_st, .int m_cu, .int m_va, .int m_sp, .int m_un, .ref b_k, .int m_kc, .int m_kn, .int m_by, .int m_kd, .int m_tg, .int m_ju])), (b_row, .inl (tc 0, 2400, .inl q_19))] H := hP
  have hD : va_D A [(b_x, .inr (9, [.ref b_row, .ref b_part, .ref b_mem, .ref b_mrk, .ref b_sf, .ref b_ss, .ref b_sr, .int m_on, .ref b_h, .int m_hc, .ref b_r, .int m_pc, .ref b_in, .int m_giv, .int m_tak, .ref b_out, .int m_put, .int m_st, .int m_cu, .int m_va, .int m_sp, .int m_un, .ref b_k, .int m_kc, .int m_kn, .int m_by, .int m_kd, .int m_tg, .int m_ju])), (b_row, .inl (tc 0, 2400, .inl q_19))] := hD
  refine lv_aload_n hx hb d_M_layShort_22 rfl (lv_at hl 0 rfl) ?_
  refine lv_bipush (v := 48) hx hb d_M_layShort_23 (by decide) ?_
  refine lv_bipush (v := 10) hx hb d_M_layShort_25 (by decide) ?_
  refine lv_bipush (v := 7) hx hb d_M_layShort_27 (by decide) ?_
  refine lv_sipush (v := 400) hx hb d_M_layShort_29 (by decide) ?_
  refine lv_bipush (v := 9) hx hb d_M_layShort_32 (by decide) ?_
  obtain ⟨q_34, e_34⟩ : ∃ z, z = (mF_StepMachineModel_lay q_19 48 10 7 400 9) := ⟨_, rfl⟩
  refine wVv (As := [.int 48, .int 10, .int 7, .int 400, .int 9]) (rest := []) e_34 ⟨hx, hb, hml, hown, hts⟩ (mc_StepMachineModel_lay l D tc tb z0 _ b_x b_row b_part b_mem b_mrk b_sf b_ss b_sr b_h b_r b_in b_out b_k m_on m_hc m_pc m_giv m_tak m_put m_st m_cu m_va m_sp m_un m_kc m_kn m_by m_kd m_tg m_ju q_19 48 10 7 400 9 (by decide) (by decide) (by decide)) (cwV 5 hts (goodV a_603 a_604 a_912 a_10 a_605) rfl rfl rfl hv_M_lay ⟨Nat.le_of_ble_eq_true rfl, Nat.le_of_ble_eq_true rfl⟩) hP hD hS hA hZ hK hB [0, 1] rfl (by decide) (fun _ => rfl) rfl rfl rfl hl.1 rfl (Nat.le_of_ble_eq_true rfl) d_M_layShort_34 ⟨Nat.zero_le _, Nat.zero_le _⟩ (fun H locs hP hD hS => ?_)
  have hP : va_P D vwCl [(b_x, .inr (9, [.ref b_row, .ref b_part, .ref b_mem, .ref b_mrk, .ref b_sf, .ref b_ss, .ref b_sr, .int m_on, .ref b_h, .int m_hc, .ref b_r, .int m_pc, .ref b_in, .int m_giv, .int m_tak, .ref b_out, .int m_put, .int m_st, .int m_cu, .int m_va, .int m_sp, .int m_un, .ref b_k, .int m_kc, .int m_kn, .int m_by, .int m_kd, .int m_tg, .int m_ju])), (b_row, .inl (tc 0, 2400, .inl q_34))] H := hP
  have hD : va_D A [(b_x, .inr (9, [.ref b_row, .ref b_part, .ref b_mem, .ref b_mrk, .ref b_sf, .ref b_ss, .ref b_sr, .int m_on, .ref b_h, .int m_hc, .ref b_r, .int m_pc, .ref b_in, .int m_giv, .int m_tak, .ref b_out, .int m_put, .int m_st, .int m_cu, .int m_va, .int m_sp, .int m_un, .ref b_k, .int m_kc, .int m_kn, .int m_by, .int m_kd, .int m_tg, .int m_ju])), (b_row, .inl (tc 0, 2400, .inl q_34))] := hD
  refine lv_aload_n hx hb d_M_layShort_37 rfl (lv_at hl 0 rfl) ?_
  refine lv_bipush (v := 48) hx hb d_M_layShort_38 (by decide) ?_
  refine lv_bipush (v := 6) hx hb d_M_layShort_40 (by decide) ?_
  refine lv_iconst (v := 2) hx hb d_M_layShort_42 (by decide) ?_
  obtain ⟨q_43, e_43⟩ : ∃ z, z = (mF_StepMachineModel_one q_34 48 6 2) := ⟨_, rfl⟩
  refine wVv (As := [.int 48, .int 6, .int 2]) (rest := []) e_43 ⟨hx, hb, hml, hown, hts⟩ (mc_StepMachineModel_one l D tc tb z0 _ b_x b_row b_part b_mem b_mrk b_sf b_ss b_sr b_h b_r b_in b_out b_k m_on m_hc m_pc m_giv m_tak m_put m_st m_cu m_va m_sp m_un m_kc m_kn m_by m_kd m_tg m_ju q_34 48 6 2 (by decide) (by decide)) (cwV 3 hts (goodV a_627 a_628 a_915 a_10 a_629) rfl rfl rfl hv_M_one ⟨Nat.le_of_ble_eq_true rfl, Nat.le_of_ble_eq_true rfl⟩) hP hD hS hA hZ hK hB [0, 1] rfl (by decide) (fun _ => rfl) rfl rfl rfl hl.1 rfl (Nat.le_of_ble_eq_true rfl) d_M_layShort_43 ⟨Nat.zero_le _, Nat.zero_le _⟩ (fun H locs hP hD hS => ?_)
  have hP : va_P D vwCl [(b_x, .inr (9, [.ref b_row, .ref b_part, .ref b_mem, .ref b_mrk, .ref b_sf, .ref b_ss, .ref b_sr, .int m_on, .ref b_h, .int m_hc, .ref b_r, .int m_pc, .ref b_in, .int m_giv, .int m_tak, .ref b_out, .int m_put, .int m_st, .int m_cu, .int m_va, .int m_sp, .int m_un, .ref b_k, .int m_kc, .int m_kn, .int m_by, .int m_kd, .int m_tg, .int m_ju])), (b_row, .inl (tc 0, 2400, .inl q_43))] H := hP
  have hD : va_D A [(b_x, .inr (9, [.ref b_row, .ref b_part, .ref b_mem, .ref b_mrk, .ref b_sf, .ref b_ss, .ref b_sr, .int m_on, .ref b_h, .int m_hc, .ref b_r, .int m_pc, .ref b_in, .int m_giv, .int m_tak, .ref b_out, .int m_put, .int m_st, .int m_cu, .int m_va, .int m_sp, .int m_un, .ref b_k, .int m_kc, .int m_kn, .int m_by, .int m_kd, .int m_tg, .int m_ju])), (b_row, .inl (tc 0, 2400, .inl q_43))] := hD
  refine lv_aload_n hx hb d_M_layShort_46 rfl (lv_at hl 0 rfl) ?_
  refine lv_bipush (v := 48) hx hb d_M_layShort_47 (by decide) ?_
  refine lv_iconst (v := 5) hx hb d_M_layShort_49 (by decide) ?_
  refine lv_iconst (v := 3) hx hb d_M_layShort_50 (by decide) ?_
  obtain ⟨q_51, e_51⟩ : ∃ z, z = (mF_StepMachineModel_one q_43 48 5 3) := ⟨_, rfl⟩
  refine wVv (As := [.int 48, .int 5, .int 3]) (rest := []) e_51 ⟨hx, hb, hml, hown, hts⟩ (mc_StepMachineModel_one l D tc tb z0 _ b_x b_row b_part b_mem b_mrk b_sf b_ss b_sr b_h b_r b_in b_out b_k m_on m_hc m_pc m_giv m_tak m_put m_st m_cu m_va m_sp m_un m_kc m_kn m_by m_kd m_tg m_ju q_43 48 5 3 (by decide) (by decide)) (cwV 3 hts (goodV a_627 a_628 a_915 a_10 a_629) rfl rfl rfl hv_M_one ⟨Nat.le_of_ble_eq_true rfl, Nat.le_of_ble_eq_true rfl⟩) hP hD hS hA hZ hK hB [0, 1] rfl (by decide) (fun _ => rfl) rfl rfl rfl hl.1 rfl (Nat.le_of_ble_eq_true rfl) d_M_layShort_51 ⟨Nat.zero_le _, Nat.zero_le _⟩ (fun H locs hP hD hS => ?_)
  have hP : va_P D vwCl [(b_x, .inr (9, [.ref b_row, .ref b_part, .ref b_mem, .ref b_mrk, .ref b_sf, .ref b_ss, .ref b_sr, .int m_on, .ref b_h, .int m_hc, .ref b_r, .int m_pc, .ref b_in, .int m_giv, .int m_tak, .ref b_out, .int m_put, .int m_st, .int m_cu, .int m_va, .int m_sp, .int m_un, .ref b_k, .int m_kc, .int m_kn, .int m_by, .int m_kd, .int m_tg, .int m_ju])), (b_row, .inl (tc 0, 2400, .inl q_51))] H := hP
  have hD : va_D A [(b_x, .inr (9, [.ref b_row, .ref b_part, .ref b_mem, .ref b_mrk, .ref b_sf, .ref b_ss, .ref b_sr, .int m_on, .ref b_h, .int m_hc, .ref b_r, .int m_pc, .ref b_in, .int m_giv, .int m_tak, .ref b_out, .int m_put, .int m_st, .int m_cu, .int m_va, .int m_sp, .int m_un, .ref b_k, .int m_kc, .int m_kn, .int m_by, .int m_kd, .int m_tg, .int m_ju])), (b_row, .inl (tc 0, 2400, .inl q_51))] := hD
  refine lv_aload_n hx hb d_M_layShort_54 rfl (lv_at hl 0 rfl) ?_
  refine lv_bipush (v := 48) hx hb d_M_layShort_55 (by decide) ?_
  refine lv_iconst (v := 4) hx hb d_M_layShort_57 (by decide) ?_
  refine lv_iconst (v := 2) hx hb d_M_layShort_58 (by decide) ?_
  refine lv_sipush (v := 500) hx hb d_M_layShort_59 (by decide) ?_
  refine lv_iconst (v := 2) hx hb d_M_layShort_62 (by decide) ?_
  obtain ⟨q_63, e_63⟩ : ∃ z, z = (mF_StepMachineModel_lay q_51 48 4 2 500 2) := ⟨_, rfl⟩
  refine wVv (As := [.int 48, .int 4, .int 2, .int 500, .int 2]) (rest := []) e_63 ⟨hx, hb, hml, hown, hts⟩ (mc_StepMachineModel_lay l D tc tb z0 _ b_x b_row b_part b_mem b_mrk b_sf b_ss b_sr b_h b_r b_in b_out b_k m_on m_hc m_pc m_giv m_tak m_put m_st m_cu m_va m_sp m_un m_kc m_kn m_by m_kd m_tg m_ju q_51 48 4 2 500 2 (by decide) (by decide) (by decide)) (cwV 5 hts (goodV a_603 a_604 a_912 a_10 a_605) rfl rfl rfl hv_M_lay ⟨Nat.le_of_ble_eq_true rfl, Nat.le_of_ble_eq_true rfl⟩) hP hD hS hA hZ hK hB [0, 1] rfl (by decide) (fun _ => rfl) rfl rfl rfl hl.1 rfl (Nat.le_of_ble_eq_true rfl) d_M_layShort_63 ⟨Nat.zero_le _, Nat.zero_le _⟩ (fun H locs hP hD hS => ?_)
  have hP : va_P D vwCl [(b_x, .inr (9, [.ref b_row, .ref b_part, .ref b_mem, .ref b_mrk, .ref b_sf, .ref b_ss, .ref b_sr, .int m_on, .ref b_h, .int m_hc, .ref b_r, .int m_pc, .ref b_in, .int m_giv, .int m_tak, .ref b_out, .int m_put, .int m_st, .int m_cu, .int m_va, .int m_sp, .int m_un, .ref b_k, .int m_kc, .int m_kn, .int m_by, .int m_kd, .int m_tg, .int m_ju])), (b_row, .inl (tc 0, 2400, .inl q_63))] H := hP
  have hD : va_D A [(b_x, .inr (9, [.ref b_row, .ref b_part, .ref b_mem, .ref b_mrk, .ref b_sf, .ref b_ss, .ref b_sr, .int m_on, .ref b_h, .int m_hc, .ref b_r, .int m_pc, .ref b_in, .int m_giv, .int m_tak, .ref b_out, .int m_put, .int m_st, .int m_cu, .int m_va, .int m_sp, .int m_un, .ref b_k, .int m_kc, .int m_kn, .int m_by, .int m_kd, .int m_tg, .int m_ju])), (b_row, .inl (tc 0, 2400, .inl q_63))] := hD
  refine lv_bipush (v := 49) hx hb d_M_layShort_66 (by decide) ?_
  refine lv_istore_n (lv' := [(1, .int 49), (0, .ref b_x)]) hx hb d_M_layShort_68 rfl hl (by decide) rfl (fun ls hl => ?_)
  have loop_69 : ∀ (n_69 : Nat) (k_69 : Int32) (m_rowL : Nat → Int32) (H : Heap) (locs : List Loc) (ls : Array Slot), (0 ≤ k_69.toInt) → ((51 : Int32).toInt - k_69.toInt).toNat < n_69 → (∀ (H : Heap) (locs : List Loc) (ls : Array Slot), (0 ≤ (mF_StepMachineModel_layShort_L69 n_69 k_69 m_rowL).1.toInt) → va_P D vwCl [(b_x, .inr (9, [.ref b_row, .ref b_part, .ref b_mem, .ref b_mrk, .ref b_sf, .ref b_ss, .ref b_sr, .int m_on, .ref b_h, .int m_hc, .ref b_r, .int m_pc, .ref b_in, .int m_giv, .int m_tak, .ref b_out, .int m_put, .int m_st, .int m_cu, .int m_va, .int m_sp, .int m_un, .ref b_k, .int m_kc, .int m_kn, .int m_by, .int m_kd, .int m_tg, .int m_ju])), (b_row, .inl (tc 0, 2400, .inl ((mF_StepMachineModel_layShort_L69 n_69 k_69 m_rowL).2)))] H → va_D A [(b_x, .inr (9, [.ref b_row, .ref b_part, .ref b_mem, .ref b_mrk, .ref b_sf, .ref b_ss, .ref b_sr, .int m_on, .ref b_h, .int m_hc, .ref b_r, .int m_pc, .ref b_in, .int m_giv, .int m_tak, .ref b_out, .int m_put, .int m_st, .int m_cu, .int m_va, .int m_sp, .int m_un, .ref b_k, .int m_kc, .int m_kn, .int m_by, .int m_kd, .int m_tg, .int m_ju])), (b_row, .inl (tc 0, 2400, .inl ((mF_StepMachineModel_layShort_L69 n_69 k_69 m_rowL).2)))] → va_S A s.heap H locs → lv_has ls 2 [(1, .int ((mF_StepMachineModel_layShort_L69 n_69 k_69 m_rowL).1)), (0, .ref b_x)] → W p l e (headSpec (wM y_M_layShort b_M_layShort 2 none) ({ frames := 3, cells := 0, slots := 0, locals := 70 })).room s m ([.ref b_x]).toArray below meth c H locs 0 0 (MQ below (va_Qv (fun u : (Nat → Int32) => u = (mF_StepMachineModel_layShort m_row)) (Bw D tc A (fun u => [(b_x, .inr (9, [.ref b_row, .ref b_part, .ref b_mem, .ref b_mrk, .ref b_sf, .ref b_ss, .ref b_sr, .int m_on, .ref b_h, .int m_hc, .ref b_r, .int m_pc, .ref b_in, .int m_giv, .int m_tak, .ref b_out, .int m_put, .int m_st, .int m_cu, .int m_va, .int m_sp, .int m_un, .ref b_k, .int m_kc, .int m_kn, .int m_by, .int m_kd, .int m_tg, .int m_ju])), (b_row, .inl (tc 0, 2400, .inl u))])) A) ([.ref b_x]).toArray s 0 0 A) (F0 m 164 ls [])) → va_P D vwCl [(b_x, .inr (9, [.ref b_row, .ref b_part, .ref b_mem, .ref b_mrk, .ref b_sf, .ref b_ss, .ref b_sr, .int m_on, .ref b_h, .int m_hc, .ref b_r, .int m_pc, .ref b_in, .int m_giv, .int m_tak, .ref b_out, .int m_put, .int m_st, .int m_cu, .int m_va, .int m_sp, .int m_un, .ref b_k, .int m_kc, .int m_kn, .int m_by, .int m_kd, .int m_tg, .int m_ju])), (b_row, .inl (tc 0, 2400, .inl m_rowL))] H → va_D A [(b_x, .inr (9, [.ref b_row, .ref b_part, .ref b_mem, .ref b_mrk, .ref b_sf, .ref b_ss, .ref b_sr, .int m_on, .ref b_h, .int m_hc, .ref b_r, .int m_pc, .ref b_in, .int m_giv, .int m_tak, .ref b_out, .int m_put, .int m_st, .int m_cu, .int m_va, .int m_sp, .int m_un, .ref b_k, .int m_kc, .int m_kn, .int m_by, .int m_kd, .int m_tg, .int m_ju])), (b_row, .inl (tc 0, 2400, .inl m_rowL))] → va_S A s.heap H locs → lv_has ls 2 [(1, .int k_69), (0, .ref b_x)] → W p l e (headSpec (wM y_M_layShort b_M_layShort 2 none) ({ frames := 3, cells := 0, slots := 0, locals := 70 })).room s m ([.ref b_x]).toArray below meth c H locs 0 0 (MQ below (va_Qv (fun u : (Nat → Int32) => u = (mF_StepMachineModel_layShort m_row)) (Bw D tc A (fun u => [(b_x, .inr (9, [.ref b_row, .ref b_part, .ref b_mem, .ref b_mrk, .ref b_sf, .ref b_ss, .ref b_sr, .int m_on, .ref b_h, .int m_hc, .ref b_r, .int m_pc, .ref b_in, .int m_giv, .int m_tak, .ref b_out, .int m_put, .int m_st, .int m_cu, .int m_va, .int m_sp, .int m_un, .ref b_k, .int m_kc, .int m_kn, .int m_by, .int m_kd, .int m_tg, .int m_ju])), (b_row, .inl (tc 0, 2400, .inl u))])) A) ([.ref b_x]).toArray s 0 0 A) (F0 m 69 ls []) := by
    intro n_69
    induction n_69 with
    | zero =>
      intro k_69 m_rowL H locs ls hq hm
      exact absurd hm (Nat.not_lt_zero _)
    | succ n_69 ih_69 =>
      intro k_69 m_rowL H locs ls hq hm_69 hX_69 hP hD hS hl
      refine lv_iload_n hx hb d_M_layShort_69 rfl (lv_at hl 0 rfl) ?_
      refine lv_bipush (v := 51) hx hb d_M_layShort_70 (by decide) ?_
      refine lv_icmp_ge (tgt := 164) hx hb d_M_layShort_72 (by decide) (fun c_72 => ?_) (fun c_72 => ?_)
      · skip
        rw [mF_StepMachineModel_layShort_L69, if_pos c_72] at hX_69
        exact hX_69 _ _ ls hq hP hD hS (lv_sub hl [0, 1] rfl)
      · skip
        refine lv_aload_n hx hb d_M_layShort_75 rfl (lv_at hl 1 rfl) ?_
        refine lv_iload_n hx hb d_M_layShort_76 rfl (lv_at hl 0 rfl) ?_
        refine lv_iload_n hx hb d_M_layShort_77 rfl (lv_at hl 0 rfl) ?_
        refine lv_bipush (v := 49) hx hb d_M_layShort_78 (by decide) ?_
        refine lv_icmp_ne (tgt := 87) hx hb d_M_layShort_80 (by decide) (fun c_80 => ?_) (fun c_80 => ?_)
        · skip
          refine lv_bipush (v := 6) hx hb d_M_layShort_87 (by decide) ?_
          refine lv_iconst (v := 0) hx hb d_M_layShort_89 (by decide) ?_
          obtain ⟨q_90, e_90⟩ : ∃ z, z = (mF_StepMachineModel_ends m_rowL k_69 6 0) := ⟨_, rfl⟩
          refine wVv (As := [.int k_69, .int 6, .int 0]) (rest := []) e_90 ⟨hx, hb, hml, hown, hts⟩ (mc_StepMachineModel_ends l D tc tb z0 _ b_x b_row b_part b_mem b_mrk b_sf b_ss b_sr b_h b_r b_in b_out b_k m_on m_hc m_pc m_giv m_tak m_put m_st m_cu m_va m_sp m_un m_kc m_kn m_by m_kd m_tg m_ju m_rowL k_69 6 0 (k75 hq c_72 (by decide))) (cwV 3 hts (goodV a_624 a_625 a_914 a_10 a_626) rfl rfl rfl hv_M_ends ⟨Nat.le_of_ble_eq_true rfl, Nat.le_of_ble_eq_true rfl⟩) hP hD hS hA hZ hK hB [0, 1] rfl (by decide) (fun _ => rfl) rfl rfl rfl hl.1 rfl (Nat.le_of_ble_eq_true rfl) d_M_layShort_90 ⟨Nat.zero_le _, Nat.zero_le _⟩ (fun H locs hP hD hS => ?_)
          have hP : va_P D vwCl [(b_x, .inr (9, [.ref b_row, .ref b_part, .ref b_mem, .ref b_mrk, .ref b_sf, .ref b_ss, .ref b_sr, .int m_on, .ref b_h, .int m_hc, .ref b_r, .int m_pc, .ref b_in, .int m_giv, .int m_tak, .ref b_out, .int m_put, .int m_st, .int m_cu, .int m_va, .int m_sp, .int m_un, .ref b_k, .int m_kc, .int m_kn, .int m_by, .int m_kd, .int m_tg, .int m_ju])), (b_row, .inl (tc 0, 2400, .inl q_90))] H := hP
          have hD : va_D A [(b_x, .inr (9, [.ref b_row, .ref b_part, .ref b_mem, .ref b_mrk, .ref b_sf, .ref b_ss, .ref b_sr, .int m_on, .ref b_h, .int m_hc, .ref b_r, .int m_pc, .ref b_in, .int m_giv, .int m_tak, .ref b_out, .int m_put, .int m_st, .int m_cu, .int m_va, .int m_sp, .int m_un, .ref b_k, .int m_kc, .int m_kn, .int m_by, .int m_kd, .int m_tg, .int m_ju])), (b_row, .inl (tc 0, 2400, .inl q_90))] := hD
          refine lv_aload_n hx hb d_M_layShort_93 rfl (lv_at hl 1 rfl) ?_
          refine lv_iload_n hx hb d_M_layShort_94 rfl (lv_at hl 0 rfl) ?_
          refine lv_bipush (v := 12) hx hb d_M_layShort_95 (by decide) ?_
          refine lv_bipush (v := 10) hx hb d_M_layShort_97 (by decide) ?_
          refine lv_sipush (v := 400) hx hb d_M_layShort_99 (by decide) ?_
          refine lv_iconst (v := 5) hx hb d_M_layShort_102 (by decide) ?_
          obtain ⟨q_103, e_103⟩ : ∃ z, z = (mF_StepMachineModel_lay q_90 k_69 12 10 400 5) := ⟨_, rfl⟩
          refine wVv (As := [.int k_69, .int 12, .int 10, .int 400, .int 5]) (rest := []) e_103 ⟨hx, hb, hml, hown, hts⟩ (mc_StepMachineModel_lay l D tc tb z0 _ b_x b_row b_part b_mem b_mrk b_sf b_ss b_sr b_h b_r b_in b_out b_k m_on m_hc m_pc m_giv m_tak m_put m_st m_cu m_va m_sp m_un m_kc m_kn m_by m_kd m_tg m_ju q_90 k_69 12 10 400 5 (k75 hq c_72 (by decide)) (by decide) (by decide)) (cwV 5 hts (goodV a_603 a_604 a_912 a_10 a_605) rfl rfl rfl hv_M_lay ⟨Nat.le_of_ble_eq_true rfl, Nat.le_of_ble_eq_true rfl⟩) hP hD hS hA hZ hK hB [0, 1] rfl (by decide) (fun _ => rfl) rfl rfl rfl hl.1 rfl (Nat.le_of_ble_eq_true rfl) d_M_layShort_103 ⟨Nat.zero_le _, Nat.zero_le _⟩ (fun H locs hP hD hS => ?_)
          have hP : va_P D vwCl [(b_x, .inr (9, [.ref b_row, .ref b_part, .ref b_mem, .ref b_mrk, .ref b_sf, .ref b_ss, .ref b_sr, .int m_on, .ref b_h, .int m_hc, .ref b_r, .int m_pc, .ref b_in, .int m_giv, .int m_tak, .ref b_out, .int m_put, .int m_st, .int m_cu, .int m_va, .int m_sp, .int m_un, .ref b_k, .int m_kc, .int m_kn, .int m_by, .int m_kd, .int m_tg, .int m_ju])), (b_row, .inl (tc 0, 2400, .inl q_103))] H := hP
          have hD : va_D A [(b_x, .inr (9, [.ref b_row, .ref b_part, .ref b_mem, .ref b_mrk, .ref b_sf, .ref b_ss, .ref b_sr, .int m_on, .ref b_h, .int m_hc, .ref b_r, .int m_pc, .ref b_in, .int m_giv, .int m_tak, .ref b_out, .int m_put, .int m_st, .int m_cu, .int m_va, .int m_sp, .int m_un, .ref b_k, .int m_kc, .int m_kn, .int m_by, .int m_kd, .int m_tg, .int m_ju])), (b_row, .inl (tc 0, 2400, .inl q_103))] := hD
          refine lv_aload_n hx hb d_M_layShort_106 rfl (lv_at hl 1 rfl) ?_
          refine lv_iload_n hx hb d_M_layShort_107 rfl (lv_at hl 0 rfl) ?_
          refine lv_bipush (v := 9) hx hb d_M_layShort_108 (by decide) ?_
          refine lv_bipush (v := 7) hx hb d_M_layShort_110 (by decide) ?_
          refine lv_sipush (v := 600) hx hb d_M_layShort_112 (by decide) ?_
          refine lv_iconst (v := 2) hx hb d_M_layShort_115 (by decide) ?_
          obtain ⟨q_116, e_116⟩ : ∃ z, z = (mF_StepMachineModel_lay q_103 k_69 9 7 600 2) := ⟨_, rfl⟩
          refine wVv (As := [.int k_69, .int 9, .int 7, .int 600, .int 2]) (rest := []) e_116 ⟨hx, hb, hml, hown, hts⟩ (mc_StepMachineModel_lay l D tc tb z0 _ b_x b_row b_part b_mem b_mrk b_sf b_ss b_sr b_h b_r b_in b_out b_k m_on m_hc m_pc m_giv m_tak m_put m_st m_cu m_va m_sp m_un m_kc m_kn m_by m_kd m_tg m_ju q_103 k_69 9 7 600 2 (k75 hq c_72 (by decide)) (by decide) (by decide)) (cwV 5 hts (goodV a_603 a_604 a_912 a_10 a_605) rfl rfl rfl hv_M_lay ⟨Nat.le_of_ble_eq_true rfl, Nat.le_of_ble_eq_true rfl⟩) hP hD hS hA hZ hK hB [0, 1] rfl (by decide) (fun _ => rfl) rfl rfl rfl hl.1 rfl (Nat.le_of_ble_eq_true rfl) d_M_layShort_116 ⟨Nat.zero_le _, Nat.zero_le _⟩ (fun H locs hP hD hS => ?_)
          have hP : va_P D vwCl [(b_x, .inr (9, [.ref b_row, .ref b_part, .ref b_mem, .ref b_mrk, .ref b_sf, .ref b_ss, .ref b_sr, .int m_on, .ref b_h, .int m_hc, .ref b_r, .int m_pc, .ref b_in, .int m_giv, .int m_tak, .ref b_out, .int m_put, .int m_st, .int m_cu, .int m_va, .int m_sp, .int m_un, .ref b_k, .int m_kc, .int m_kn, .int m_by, .int m_kd, .int m_tg, .int m_ju])), (b_row, .inl (tc 0, 2400, .inl q_116))] H := hP
          have hD : va_D A [(b_x, .inr (9, [.ref b_row, .ref b_part, .ref b_mem, .ref b_mrk, .ref b_sf, .ref b_ss, .ref b_sr, .int m_on, .ref b_h, .int m_hc, .ref b_r, .int m_pc, .ref b_in, .int m_giv, .int m_tak, .ref b_out, .int m_put, .int m_st, .int m_cu, .int m_va, .int m_sp, .int m_un, .ref b_k, .int m_kc, .int m_kn, .int m_by, .int m_kd, .int m_tg, .int m_ju])), (b_row, .inl (tc 0, 2400, .inl q_116))] := hD
          refine lv_aload_n hx hb d_M_layShort_119 rfl (lv_at hl 1 rfl) ?_
          refine lv_iload_n hx hb d_M_layShort_120 rfl (lv_at hl 0 rfl) ?_
          refine lv_bipush (v := 6) hx hb d_M_layShort_121 (by decide) ?_
          refine lv_iconst (v := 2) hx hb d_M_layShort_123 (by decide) ?_
          obtain ⟨q_124, e_124⟩ : ∃ z, z = (mF_StepMachineModel_one q_116 k_69 6 2) := ⟨_, rfl⟩
          refine wVv (As := [.int k_69, .int 6, .int 2]) (rest := []) e_124 ⟨hx, hb, hml, hown, hts⟩ (mc_StepMachineModel_one l D tc tb z0 _ b_x b_row b_part b_mem b_mrk b_sf b_ss b_sr b_h b_r b_in b_out b_k m_on m_hc m_pc m_giv m_tak m_put m_st m_cu m_va m_sp m_un m_kc m_kn m_by m_kd m_tg m_ju q_116 k_69 6 2 (k75 hq c_72 (by decide)) (by decide)) (cwV 3 hts (goodV a_627 a_628 a_915 a_10 a_629) rfl rfl rfl hv_M_one ⟨Nat.le_of_ble_eq_true rfl, Nat.le_of_ble_eq_true rfl⟩) hP hD hS hA hZ hK hB [0, 1] rfl (by decide) (fun _ => rfl) rfl rfl rfl hl.1 rfl (Nat.le_of_ble_eq_true rfl) d_M_layShort_124 ⟨Nat.zero_le _, Nat.zero_le _⟩ (fun H locs hP hD hS => ?_)
          have hP : va_P D vwCl [(b_x, .inr (9, [.ref b_row, .ref b_part, .ref b_mem, .ref b_mrk, .ref b_sf, .ref b_ss, .ref b_sr, .int m_on, .ref b_h, .int m_hc, .ref b_r, .int m_pc, .ref b_in, .int m_giv, .int m_tak, .ref b_out, .int m_put, .int m_st, .int m_cu, .int m_va, .int m_sp, .int m_un, .ref b_k, .int m_kc, .int m_kn, .int m_by, .int m_kd, .int m_tg, .int m_ju])), (b_row, .inl (tc 0, 2400, .inl q_124))] H := hP
          have hD : va_D A [(b_x, .inr (9, [.ref b_row, .ref b_part, .ref b_mem, .ref b_mrk, .ref b_sf, .ref b_ss, .ref b_sr, .int m_on, .ref b_h, .int m_hc, .ref b_r, .int m_pc, .ref b_in, .int m_giv, .int m_tak, .ref b_out, .int m_put, .int m_st, .int m_cu, .int m_va, .int m_sp, .int m_un, .ref b_k, .int m_kc, .int m_kn, .int m_by, .int m_kd, .int m_tg, .int m_ju])), (b_row, .inl (tc 0, 2400, .inl q_124))] := hD
          refine lv_aload_n hx hb d_M_layShort_127 rfl (lv_at hl 1 rfl) ?_
          refine lv_iload_n hx hb d_M_layShort_128 rfl (lv_at hl 0 rfl) ?_
          refine lv_iconst (v := 5) hx hb d_M_layShort_129 (by decide) ?_
          refine lv_bipush (v := 6) hx hb d_M_layShort_130 (by decide) ?_
          obtain ⟨q_132, e_132⟩ : ∃ z, z = (mF_StepMachineModel_one q_124 k_69 5 6) := ⟨_, rfl⟩
          refine wVv (As := [.int k_69, .int 5, .int 6]) (rest := []) e_132 ⟨hx, hb, hml, hown, hts⟩ (mc_StepMachineModel_one l D tc tb z0 _ b_x b_row b_part b_mem b_mrk b_sf b_ss b_sr b_h b_r b_in b_out b_k m_on m_hc m_pc m_giv m_tak m_put m_st m_cu m_va m_sp m_un m_kc m_kn m_by m_kd m_tg m_ju q_124 k_69 5 6 (k75 hq c_72 (by decide)) (by decide)) (cwV 3 hts (goodV a_627 a_628 a_915 a_10 a_629) rfl rfl rfl hv_M_one ⟨Nat.le_of_ble_eq_true rfl, Nat.le_of_ble_eq_true rfl⟩) hP hD hS hA hZ hK hB [0, 1] rfl (by decide) (fun _ => rfl) rfl rfl rfl hl.1 rfl (Nat.le_of_ble_eq_true rfl) d_M_layShort_132 ⟨Nat.zero_le _, Nat.zero_le _⟩ (fun H locs hP hD hS => ?_)
          have hP : va_P D vwCl [(b_x, .inr (9, [.ref b_row, .ref b_part, .ref b_mem, .ref b_mrk, .ref b_sf, .ref b_ss, .ref b_sr, .int m_on, .ref b_h, .int m_hc, .ref b_r, .int m_pc, .ref b_in, .int m_giv, .int m_tak, .ref b_out, .int m_put, .int m_st, .int m_cu, .int m_va, .int m_sp, .int m_un, .ref b_k, .int m_kc, .int m_kn, .int m_by, .int m_kd, .int m_tg, .int m_ju])), (b_row, .inl (tc 0, 2400, .inl q_132))] H := hP
          have hD : va_D A [(b_x, .inr (9, [.ref b_row, .ref b_part, .ref b_mem, .ref b_mrk, .ref b_sf, .ref b_ss, .ref b_sr, .int m_on, .ref b_h, .int m_hc, .ref b_r, .int m_pc, .ref b_in, .int m_giv, .int m_tak, .ref b_out, .int m_put, .int m_st, .int m_cu, .int m_va, .int m_sp, .int m_un, .ref b_k, .int m_kc, .int m_kn, .int m_by, .int m_kd, .int m_tg, .int m_ju])), (b_row, .inl (tc 0, 2400, .inl q_132))] := hD
          refine lv_aload_n hx hb d_M_layShort_135 rfl (lv_at hl 1 rfl) ?_
          refine lv_iload_n hx hb d_M_layShort_136 rfl (lv_at hl 0 rfl) ?_
          refine lv_iconst (v := 4) hx hb d_M_layShort_137 (by decide) ?_
          refine lv_iconst (v := 2) hx hb d_M_layShort_138 (by decide) ?_
          refine lv_iload_n hx hb d_M_layShort_139 rfl (lv_at hl 0 rfl) ?_
          refine lv_bipush (v := 49) hx hb d_M_layShort_140 (by decide) ?_
          refine lv_icmp_ne (tgt := 151) hx hb d_M_layShort_142 (by decide) (fun c_142 => ?_) (fun c_142 => absurd c_142 c_80)
          refine lv_sipush (v := 700) hx hb d_M_layShort_151 (by decide) ?_
          refine lv_iconst (v := 2) hx hb d_M_layShort_154 (by decide) ?_
          obtain ⟨q_155, e_155⟩ : ∃ z, z = (mF_StepMachineModel_lay q_132 k_69 4 2 700 2) := ⟨_, rfl⟩
          refine wVv (As := [.int k_69, .int 4, .int 2, .int 700, .int 2]) (rest := []) e_155 ⟨hx, hb, hml, hown, hts⟩ (mc_StepMachineModel_lay l D tc tb z0 _ b_x b_row b_part b_mem b_mrk b_sf b_ss b_sr b_h b_r b_in b_out b_k m_on m_hc m_pc m_giv m_tak m_put m_st m_cu m_va m_sp m_un m_kc m_kn m_by m_kd m_tg m_ju q_132 k_69 4 2 700 2 (k75 hq c_72 (by decide)) (by decide) (by decide)) (cwV 5 hts (goodV a_603 a_604 a_912 a_10 a_605) rfl rfl rfl hv_M_lay ⟨Nat.le_of_ble_eq_true rfl, Nat.le_of_ble_eq_true rfl⟩) hP hD hS hA hZ hK hB [0, 1] rfl (by decide) (fun _ => rfl) rfl rfl rfl hl.1 rfl (Nat.le_of_ble_eq_true rfl) d_M_layShort_155 ⟨Nat.zero_le _, Nat.zero_le _⟩ (fun H locs hP hD hS => ?_)
          have hP : va_P D vwCl [(b_x, .inr (9, [.ref b_row, .ref b_part, .ref b_mem, .ref b_mrk, .ref b_sf, .ref b_ss, .ref b_sr, .int m_on, .ref b_h, .int m_hc, .ref b_r, .int m_pc, .ref b_in, .int m_giv, .int m_tak, .ref b_out, .int m_put, .int m_st, .int m_cu, .int m_va, .int m_sp, .int m_un, .ref b_k, .int m_kc, .int m_kn, .int m_by, .int m_kd, .int m_tg, .int m_ju])), (b_row, .inl (tc 0, 2400, .inl q_155))] H := hP
          have hD : va_D A [(b_x, .inr (9, [.ref b_row, .ref b_part, .ref b_mem, .ref b_mrk, .ref b_sf, .ref b_ss, .ref b_sr, .int m_on, .ref b_h, .int m_hc, .ref b_r, .int m_pc, .ref b_in, .int m_giv, .int m_tak, .ref b_out, .int m_put, .int m_st, .int m_cu, .int m_va, .int m_sp, .int m_un, .ref b_k, .int m_kc, .int m_kn, .int m_by, .int m_kd, .int m_tg, .int m_ju])), (b_row, .inl (tc 0, 2400, .inl q_155))] := hD
          refine lv_iinc (v := (k_69 + 1)) (lv' := [(1, .int (k_69 + 1)), (0, .ref b_x)]) hx hb d_M_layShort_158 hl (k := 0) rfl rfl (by decide) rfl (fun ls hl => ?_)
          refine lv_goto (tgt := 69) hx hb d_M_layShort_161 (by decide) ?_
          exact ih_69 (k_69 + 1) q_155 _ _ ls (st_nn c_72 hq) (ms_step c_72 hm_69) (by have h := hX_69; rw [mF_StepMachineModel_layShort_L69, if_neg c_72, if_neg c_80, ← e_90, mF_StepMachineModel_layShort_7, ← e_103, mF_StepMachineModel_layShort_8, ← e_116, mF_StepMachineModel_layShort_9, ← e_124, mF_StepMachineModel_layShort_10, ← e_132, mF_StepMachineModel_layShort_11, ← e_155, mF_StepMachineModel_layShort_12] at h; exact h) hP hD hS (lv_sub hl [0, 1] rfl)
        · skip
          refine lv_iconst (v := 2) hx hb d_M_layShort_83 (by decide) ?_
          refine lv_goto (tgt := 89) hx hb d_M_layShort_84 (by decide) ?_
          refine lv_iconst (v := 0) hx hb d_M_layShort_89 (by decide) ?_
          obtain ⟨q_90, e_90⟩ : ∃ z, z = (mF_StepMachineModel_ends m_rowL k_69 2 0) := ⟨_, rfl⟩
          refine wVv (As := [.int k_69, .int 2, .int 0]) (rest := []) e_90 ⟨hx, hb, hml, hown, hts⟩ (mc_StepMachineModel_ends l D tc tb z0 _ b_x b_row b_part b_mem b_mrk b_sf b_ss b_sr b_h b_r b_in b_out b_k m_on m_hc m_pc m_giv m_tak m_put m_st m_cu m_va m_sp m_un m_kc m_kn m_by m_kd m_tg m_ju m_rowL k_69 2 0 (k75 hq c_72 (by decide))) (cwV 3 hts (goodV a_624 a_625 a_914 a_10 a_626) rfl rfl rfl hv_M_ends ⟨Nat.le_of_ble_eq_true rfl, Nat.le_of_ble_eq_true rfl⟩) hP hD hS hA hZ hK hB [0, 1] rfl (by decide) (fun _ => rfl) rfl rfl rfl hl.1 rfl (Nat.le_of_ble_eq_true rfl) d_M_layShort_90 ⟨Nat.zero_le _, Nat.zero_le _⟩ (fun H locs hP hD hS => ?_)
          have hP : va_P D vwCl [(b_x, .inr (9, [.ref b_row, .ref b_part, .ref b_mem, .ref b_mrk, .ref b_sf, .ref b_ss, .ref b_sr, .int m_on, .ref b_h, .int m_hc, .ref b_r, .int m_pc, .ref b_in, .int m_giv, .int m_tak, .ref b_out, .int m_put, .int m_st, .int m_cu, .int m_va, .int m_sp, .int m_un, .ref b_k, .int m_kc, .int m_kn, .int m_by, .int m_kd, .int m_tg, .int m_ju])), (b_row, .inl (tc 0, 2400, .inl q_90))] H := hP
          have hD : va_D A [(b_x, .inr (9, [.ref b_row, .ref b_part, .ref b_mem, .ref b_mrk, .ref b_sf, .ref b_ss, .ref b_sr, .int m_on, .ref b_h, .int m_hc, .ref b_r, .int m_pc, .ref b_in, .int m_giv, .int m_tak, .ref b_out, .int m_put, .int m_st, .int m_cu, .int m_va, .int m_sp, .int m_un, .ref b_k, .int m_kc, .int m_kn, .int m_by, .int m_kd, .int m_tg, .int m_ju])), (b_row, .inl (tc 0, 2400, .inl q_90))] := hD
          refine lv_aload_n hx hb d_M_layShort_93 rfl (lv_at hl 1 rfl) ?_
          refine lv_iload_n hx hb d_M_layShort_94 rfl (lv_at hl 0 rfl) ?_
          refine lv_bipush (v := 12) hx hb d_M_layShort_95 (by decide) ?_
          refine lv_bipush (v := 10) hx hb d_M_layShort_97 (by decide) ?_
          refine lv_sipush (v := 400) hx hb d_M_layShort_99 (by decide) ?_
          refine lv_iconst (v := 5) hx hb d_M_layShort_102 (by decide) ?_
          obtain ⟨q_103, e_103⟩ : ∃ z, z = (mF_StepMachineModel_lay q_90 k_69 12 10 400 5) := ⟨_, rfl⟩
          refine wVv (As := [.int k_69, .int 12, .int 10, .int 400, .int 5]) (rest := []) e_103 ⟨hx, hb, hml, hown, hts⟩ (mc_StepMachineModel_lay l D tc tb z0 _ b_x b_row b_part b_mem b_mrk b_sf b_ss b_sr b_h b_r b_in b_out b_k m_on m_hc m_pc m_giv m_tak m_put m_st m_cu m_va m_sp m_un m_kc m_kn m_by m_kd m_tg m_ju q_90 k_69 12 10 400 5 (k75 hq c_72 (by decide)) (by decide) (by decide)) (cwV 5 hts (goodV a_603 a_604 a_912 a_10 a_605) rfl rfl rfl hv_M_lay ⟨Nat.le_of_ble_eq_true rfl, Nat.le_of_ble_eq_true rfl⟩) hP hD hS hA hZ hK hB [0, 1] rfl (by decide) (fun _ => rfl) rfl rfl rfl hl.1 rfl (Nat.le_of_ble_eq_true rfl) d_M_layShort_103 ⟨Nat.zero_le _, Nat.zero_le _⟩ (fun H locs hP hD hS => ?_)
          have hP : va_P D vwCl [(b_x, .inr (9, [.ref b_row, .ref b_part, .ref b_mem, .ref b_mrk, .ref b_sf, .ref b_ss, .ref b_sr, .int m_on, .ref b_h, .int m_hc, .ref b_r, .int m_pc, .ref b_in, .int m_giv, .int m_tak, .ref b_out, .int m_put, .int m_st, .int m_cu, .int m_va, .int m_sp, .int m_un, .ref b_k, .int m_kc, .int m_kn, .int m_by, .int m_kd, .int m_tg, .int m_ju])), (b_row, .inl (tc 0, 2400, .inl q_103))] H := hP
          have hD : va_D A [(b_x, .inr (9, [.ref b_row, .ref b_part, .ref b_mem, .ref b_mrk, .ref b_sf, .ref b_ss, .ref b_sr, .int m_on, .ref b_h, .int m_hc, .ref b_r, .int m_pc, .ref b_in, .int m_giv, .int m_tak, .ref b_out, .int m_put, .int m_st, .int m_cu, .int m_va, .int m_sp, .int m_un, .ref b_k, .int m_kc, .int m_kn, .int m_by, .int m_kd, .int m_tg, .int m_ju])), (b_row, .inl (tc 0, 2400, .inl q_103))] := hD
          refine lv_aload_n hx hb d_M_layShort_106 rfl (lv_at hl 1 rfl) ?_
          refine lv_iload_n hx hb d_M_layShort_107 rfl (lv_at hl 0 rfl) ?_
          refine lv_bipush (v := 9) hx hb d_M_layShort_108 (by decide) ?_
          refine lv_bipush (v := 7) hx hb d_M_layShort_110 (by decide) ?_
          refine lv_sipush (v := 600) hx hb d_M_layShort_112 (by decide) ?_
          refine lv_iconst (v := 2) hx hb d_M_layShort_115 (by decide) ?_
          obtain ⟨q_116, e_116⟩ : ∃ z, z = (mF_StepMachineModel_lay q_103 k_69 9 7 600 2) := ⟨_, rfl⟩
          refine wVv (As := [.int k_69, .int 9, .int 7, .int 600, .int 2]) (rest := []) e_116 ⟨hx, hb, hml, hown, hts⟩ (mc_StepMachineModel_lay l D tc tb z0 _ b_x b_row b_part b_mem b_mrk b_sf b_ss b_sr b_h b_r b_in b_out b_k m_on m_hc m_pc m_giv m_tak m_put m_st m_cu m_va m_sp m_un m_kc m_kn m_by m_kd m_tg m_ju q_103 k_69 9 7 600 2 (k75 hq c_72 (by decide)) (by decide) (by decide)) (cwV 5 hts (goodV a_603 a_604 a_912 a_10 a_605) rfl rfl rfl hv_M_lay ⟨Nat.le_of_ble_eq_true rfl, Nat.le_of_ble_eq_true rfl⟩) hP hD hS hA hZ hK hB [0, 1] rfl (by decide) (fun _ => rfl) rfl rfl rfl hl.1 rfl (Nat.le_of_ble_eq_true rfl) d_M_layShort_116 ⟨Nat.zero_le _, Nat.zero_le _⟩ (fun H locs hP hD hS => ?_)
          have hP : va_P D vwCl [(b_x, .inr (9, [.ref b_row, .ref b_part, .ref b_mem, .ref b_mrk, .ref b_sf, .ref b_ss, .ref b_sr, .int m_on, .ref b_h, .int m_hc, .ref b_r, .int m_pc, .ref b_in, .int m_giv, .int m_tak, .ref b_out, .int m_put, .int m_st, .int m_cu, .int m_va, .int m_sp, .int m_un, .ref b_k, .int m_kc, .int m_kn, .int m_by, .int m_kd, .int m_tg, .int m_ju])), (b_row, .inl (tc 0, 2400, .inl q_116))] H := hP
          have hD : va_D A [(b_x, .inr (9, [.ref b_row, .ref b_part, .ref b_mem, .ref b_mrk, .ref b_sf, .ref b_ss, .ref b_sr, .int m_on, .ref b_h, .int m_hc, .ref b_r, .int m_pc, .ref b_in, .int m_giv, .int m_tak, .ref b_out, .int m_put, .int m_st, .int m_cu, .int m_va, .int m_sp, .int m_un, .ref b_k, .int m_kc, .int m_kn, .int m_by, .int m_kd, .int m_tg, .int m_ju])), (b_row, .inl (tc 0, 2400, .inl q_116))] := hD
          refine lv_aload_n hx hb d_M_layShort_119 rfl (lv_at hl 1 rfl) ?_
          refine lv_iload_n hx hb d_M_layShort_120 rfl (lv_at hl 0 rfl) ?_
          refine lv_bipush (v := 6) hx hb d_M_layShort_121 (by decide) ?_
          refine lv_iconst (v := 2) hx hb d_M_layShort_123 (by decide) ?_
          obtain ⟨q_124, e_124⟩ : ∃ z, z = (mF_StepMachineModel_one q_116 k_69 6 2) := ⟨_, rfl⟩
          refine wVv (As := [.int k_69, .int 6, .int 2]) (rest := []) e_124 ⟨hx, hb, hml, hown, hts⟩ (mc_StepMachineModel_one l D tc tb z0 _ b_x b_row b_part b_mem b_mrk b_sf b_ss b_sr b_h b_r b_in b_out b_k m_on m_hc m_pc m_giv m_tak m_put m_st m_cu m_va m_sp m_un m_kc m_kn m_by m_kd m_tg m_ju q_116 k_69 6 2 (k75 hq c_72 (by decide)) (by decide)) (cwV 3 hts (goodV a_627 a_628 a_915 a_10 a_629) rfl rfl rfl hv_M_one ⟨Nat.le_of_ble_eq_true rfl, Nat.le_of_ble_eq_true rfl⟩) hP hD hS hA hZ hK hB [0, 1] rfl (by decide) (fun _ => rfl) rfl rfl rfl hl.1 rfl (Nat.le_of_ble_eq_true rfl) d_M_layShort_124 ⟨Nat.zero_le _, Nat.zero_le _⟩ (fun H locs hP hD hS => ?_)
          have hP : va_P D vwCl [(b_x, .inr (9, [.ref b_row, .ref b_part, .ref b_mem, .ref b_mrk, .ref b_sf, .ref b_ss, .ref b_sr, .int m_on, .ref b_h, .int m_hc, .ref b_r, .int m_pc, .ref b_in, .int m_giv, .int m_tak, .ref b_out, .int m_put, .int m_st, .int m_cu, .int m_va, .int m_sp, .int m_un, .ref b_k, .int m_kc, .int m_kn, .int m_by, .int m_kd, .int m_tg, .int m_ju])), (b_row, .inl (tc 0, 2400, .inl q_124))] H := hP
          have hD : va_D A [(b_x, .inr (9, [.ref b_row, .ref b_part, .ref b_mem, .ref b_mrk, .ref b_sf, .ref b_ss, .ref b_sr, .int m_on, .ref b_h, .int m_hc, .ref b_r, .int m_pc, .ref b_in, .int m_giv, .int m_tak, .ref b_out, .int m_put, .int m_st, .int m_cu, .int m_va, .int m_sp, .int m_un, .ref b_k, .int m_kc, .int m_kn, .int m_by, .int m_kd, .int m_tg, .int m_ju])), (b_row, .inl (tc 0, 2400, .inl q_124))] := hD
          refine lv_aload_n hx hb d_M_layShort_127 rfl (lv_at hl 1 rfl) ?_
          refine lv_iload_n hx hb d_M_layShort_128 rfl (lv_at hl 0 rfl) ?_
          refine lv_iconst (v := 5) hx hb d_M_layShort_129 (by decide) ?_
          refine lv_bipush (v := 6) hx hb d_M_layShort_130 (by decide) ?_
          obtain ⟨q_132, e_132⟩ : ∃ z, z = (mF_StepMachineModel_one q_124 k_69 5 6) := ⟨_, rfl⟩
          refine wVv (As := [.int k_69, .int 5, .int 6]) (rest := []) e_132 ⟨hx, hb, hml, hown, hts⟩ (mc_StepMachineModel_one l D tc tb z0 _ b_x b_row b_part b_mem b_mrk b_sf b_ss b_sr b_h b_r b_in b_out b_k m_on m_hc m_pc m_giv m_tak m_put m_st m_cu m_va m_sp m_un m_kc m_kn m_by m_kd m_tg m_ju q_124 k_69 5 6 (k75 hq c_72 (by decide)) (by decide)) (cwV 3 hts (goodV a_627 a_628 a_915 a_10 a_629) rfl rfl rfl hv_M_one ⟨Nat.le_of_ble_eq_true rfl, Nat.le_of_ble_eq_true rfl⟩) hP hD hS hA hZ hK hB [0, 1] rfl (by decide) (fun _ => rfl) rfl rfl rfl hl.1 rfl (Nat.le_of_ble_eq_true rfl) d_M_layShort_132 ⟨Nat.zero_le _, Nat.zero_le _⟩ (fun H locs hP hD hS => ?_)
          have hP : va_P D vwCl [(b_x, .inr (9, [.ref b_row, .ref b_part, .ref b_mem, .ref b_mrk, .ref b_sf, .ref b_ss, .ref b_sr, .int m_on, .ref b_h, .int m_hc, .ref b_r, .int m_pc, .ref b_in, .int m_giv, .int m_tak, .ref b_out, .int m_put, .int m_st, .int m_cu, .int m_va, .int m_sp, .int m_un, .ref b_k, .int m_kc, .int m_kn, .int m_by, .int m_kd, .int m_tg, .int m_ju])), (b_row, .inl (tc 0, 2400, .inl q_132))] H := hP
          have hD : va_D A [(b_x, .inr (9, [.ref b_row, .ref b_part, .ref b_mem, .ref b_mrk, .ref b_sf, .ref b_ss, .ref b_sr, .int m_on, .ref b_h, .int m_hc, .ref b_r, .int m_pc, .ref b_in, .int m_giv, .int m_tak, .ref b_out, .int m_put, .int m_st, .int m_cu, .int m_va, .int m_sp, .int m_un, .ref b_k, .int m_kc, .int m_kn, .int m_by, .int m_kd, .int m_tg, .int m_ju])), (b_row, .inl (tc 0, 2400, .inl q_132))] := hD
          refine lv_aload_n hx hb d_M_layShort_135 rfl (lv_at hl 1 rfl) ?_
          refine lv_iload_n hx hb d_M_layShort_136 rfl (lv_at hl 0 rfl) ?_
          refine lv_iconst (v := 4) hx hb d_M_layShort_137 (by decide) ?_
          refine lv_iconst (v := 2) hx hb d_M_layShort_138 (by decide) ?_
          refine lv_iload_n hx hb d_M_layShort_139 rfl (lv_at hl 0 rfl) ?_
          refine lv_bipush (v := 49) hx hb d_M_layShort_140 (by decide) ?_
          refine lv_icmp_ne (tgt := 151) hx hb d_M_layShort_142 (by decide) (fun c_142 => absurd c_80 c_142) (fun c_142 => ?_)
          refine lv_sipush (v := 500) hx hb d_M_layShort_145 (by decide) ?_
          refine lv_goto (tgt := 154) hx hb d_M_layShort_148 (by decide) ?_
          refine lv_iconst (v := 2) hx hb d_M_layShort_154 (by decide) ?_
          obtain ⟨q_155, e_155⟩ : ∃ z, z = (mF_StepMachineModel_lay q_132 k_69 4 2 500 2) := ⟨_, rfl⟩
          refine wVv (As := [.int k_69, .int 4, .int 2, .int 500, .int 2]) (rest := []) e_155 ⟨hx, hb, hml, hown, hts⟩ (mc_StepMachineModel_lay l D tc tb z0 _ b_x b_row b_part b_mem b_mrk b_sf b_ss b_sr b_h b_r b_in b_out b_k m_on m_hc m_pc m_giv m_tak m_put m_st m_cu m_va m_sp m_un m_kc m_kn m_by m_kd m_tg m_ju q_132 k_69 4 2 500 2 (k75 hq c_72 (by decide)) (by decide) (by decide)) (cwV 5 hts (goodV a_603 a_604 a_912 a_10 a_605) rfl rfl rfl hv_M_lay ⟨Nat.le_of_ble_eq_true rfl, Nat.le_of_ble_eq_true rfl⟩) hP hD hS hA hZ hK hB [0, 1] rfl (by decide) (fun _ => rfl) rfl rfl rfl hl.1 rfl (Nat.le_of_ble_eq_true rfl) d_M_layShort_155 ⟨Nat.zero_le _, Nat.zero_le _⟩ (fun H locs hP hD hS => ?_)
          have hP : va_P D vwCl [(b_x, .inr (9, [.ref b_row, .ref b_part, .ref b_mem, .ref b_mrk, .ref b_sf, .ref b_ss, .ref b_sr, .int m_on, .ref b_h, .int m_hc, .ref b_r, .int m_pc, .ref b_in, .int m_giv, .int m_tak, .ref b_out, .int m_put, .int m_st, .int m_cu, .int m_va, .int m_sp, .int m_un, .ref b_k, .int m_kc, .int m_kn, .int m_by, .int m_kd, .int m_tg, .int m_ju])), (b_row, .inl (tc 0, 2400, .inl q_155))] H := hP
          have hD : va_D A [(b_x, .inr (9, [.ref b_row, .ref b_part, .ref b_mem, .ref b_mrk, .ref b_sf, .ref b_ss, .ref b_sr, .int m_on, .ref b_h, .int m_hc, .ref b_r, .int m_pc, .ref b_in, .int m_giv, .int m_tak, .ref b_out, .int m_put, .int m_st, .int m_cu, .int m_va, .int m_sp, .int m_un, .ref b_k, .int m_kc, .int m_kn, .int m_by, .int m_kd, .int m_tg, .int m_ju])), (b_row, .inl (tc 0, 2400, .inl q_155))] := hD
          refine lv_iinc (v := (k_69 + 1)) (lv' := [(1, .int (k_69 + 1)), (0, .ref b_x)]) hx hb d_M_layShort_158 hl (k := 0) rfl rfl (by decide) rfl (fun ls hl => ?_)
          refine lv_goto (tgt := 69) hx hb d_M_layShort_161 (by decide) ?_
          exact ih_69 (k_69 + 1) q_155 _ _ ls (st_nn c_72 hq) (ms_step c_72 hm_69) (by have h := hX_69; rw [mF_StepMachineModel_layShort_L69, if_neg c_72, if_pos c_80, ← e_90, mF_StepMachineModel_layShort_13, ← e_103, mF_StepMachineModel_layShort_14, ← e_116, mF_StepMachineModel_layShort_15, ← e_124, mF_StepMachineModel_layShort_16, ← e_132, mF_StepMachineModel_layShort_17, ← e_155, mF_StepMachineModel_layShort_18] at h; exact h) hP hD hS (lv_sub hl [0, 1] rfl)
  obtain ⟨q_69, e_69⟩ : ∃ z, z = (mF_StepMachineModel_layShort_L69 (((51 : Int32).toInt - (49 : Int32).toInt).toNat + 1) (49 : Int32) q_63) := ⟨_, rfl⟩
  refine loop_69 (((51 : Int32).toInt - (49 : Int32).toInt).toNat + 1) (49 : Int32) q_63 _ _ ls (by decide) (Nat.lt_succ_self _) ?_ hP hD hS (lv_sub hl [0, 1] rfl)
  rw [← e_69]
  intro H locs ls hq hP hD hS hl
  have hP : va_P D vwCl [(b_x, .inr (9, [.ref b_row, .ref b_part, .ref b_mem, .ref b_mrk, .ref b_sf, .ref b_ss, .ref b_sr, .int m_on, .ref b_h, .int m_hc, .ref b_r, .int m_pc, .ref b_in, .int m_giv, .int m_tak, .ref b_out, .int m_put, .int m_st, .int m_cu, .int m_va, .int m_sp, .int m_un, .ref b_k, .int m_kc, .int m_kn, .int m_by, .int m_kd, .int m_tg, .int m_ju])), (b_row, .inl (tc 0, 2400, .inl q_69.2))] H := hP
  have hD : va_D A [(b_x, .inr (9, [.ref b_row, .ref b_part, .ref b_mem, .ref b_mrk, .ref b_sf, .ref b_ss, .ref b_sr, .int m_on, .ref b_h, .int m_hc, .ref b_r, .int m_pc, .ref b_in, .int m_giv, .int m_tak, .ref b_out, .int m_put, .int m_st, .int m_cu, .int m_va, .int m_sp, .int m_un, .ref b_k, .int m_kc, .int m_kn, .int m_by, .int m_kd, .int m_tg, .int m_ju])), (b_row, .inl (tc 0, 2400, .inl q_69.2))] := hD
  have hl : lv_has ls 2 [(1, .int q_69.1), (0, .ref b_x)] := hl
  refine lv_aload_n hx hb d_M_layShort_164 rfl (lv_at hl 1 rfl) ?_
  refine lv_bipush (v := 51) hx hb d_M_layShort_165 (by decide) ?_
  refine lv_iconst (v := 0) hx hb d_M_layShort_167 (by decide) ?_
  refine lv_bipush (v := 16) hx hb d_M_layShort_168 (by decide) ?_
  refine lv_iconst (v := 1) hx hb d_M_layShort_170 (by decide) ?_
  obtain ⟨q_171, e_171⟩ : ∃ z, z = (mF_StepMachineModel_fix q_69.2 51 0 16 1) := ⟨_, rfl⟩
  refine wVv (As := [.int 51, .int 0, .int 16, .int 1]) (rest := []) e_171 ⟨hx, hb, hml, hown, hts⟩ (mc_StepMachineModel_fix l D tc tb z0 _ b_x b_row b_part b_mem b_mrk b_sf b_ss b_sr b_h b_r b_in b_out b_k m_on m_hc m_pc m_giv m_tak m_put m_st m_cu m_va m_sp m_un m_kc m_kn m_by m_kd m_tg m_ju q_69.2 51 0 16 1 (by decide) (by decide) (by decide)) (cwV 4 hts (goodV a_597 a_598 a_911 a_10 a_599) rfl rfl rfl hv_M_fix ⟨Nat.le_of_ble_eq_true rfl, Nat.le_of_ble_eq_true rfl⟩) hP hD hS hA hZ hK hB [0, 1] rfl (by decide) (fun _ => rfl) rfl rfl rfl hl.1 rfl (Nat.le_of_ble_eq_true rfl) d_M_layShort_171 ⟨Nat.zero_le _, Nat.zero_le _⟩ (fun H locs hP hD hS => ?_)
  have hP : va_P D vwCl [(b_x, .inr (9, [.ref b_row, .ref b_part, .ref b_mem, .ref b_mrk, .ref b_sf, .ref b_ss, .ref b_sr, .int m_on, .ref b_h, .int m_hc, .ref b_r, .int m_pc, .ref b_in, .int m_giv, .int m_tak, .ref b_out, .int m_put, .int m_st, .int m_cu, .int m_va, .int m_sp, .int m_un, .ref b_k, .int m_kc, .int m_kn, .int m_by, .int m_kd, .int m_tg, .int m_ju])), (b_row, .inl (tc 0, 2400, .inl q_171))] H := hP
  have hD : va_D A [(b_x, .inr (9, [.ref b_row, .ref b_part, .ref b_mem, .ref b_mrk, .ref b_sf, .ref b_ss, .ref b_sr, .int m_on, .ref b_h, .int m_hc, .ref b_r, .int m_pc, .ref b_in, .int m_giv, .int m_tak, .ref b_out, .int m_put, .int m_st, .int m_cu, .int m_va, .int m_sp, .int m_un, .ref b_k, .int m_kc, .int m_kn, .int m_by, .int m_kd, .int m_tg, .int m_ju])), (b_row, .inl (tc 0, 2400, .inl q_171))] := hD
  refine lv_bipush (v := 52) hx hb d_M_layShort_174 (by decide) ?_
  refine lv_istore_n (lv' := [(1, .int 52), (0, .ref b_x)]) hx hb d_M_layShort_176 rfl hl (by decide) rfl (fun ls hl => ?_)
  have loop_177 : ∀ (n_177 : Nat) (k_177 : Int32) (m_rowL : Nat → Int32) (H : Heap) (locs : List Loc) (ls : Array Slot), (0 ≤ k_177.toInt) → ((57 : Int32).toInt - k_177.toInt).toNat < n_177 → (∀ (H : Heap) (locs : List Loc) (ls : Array Slot), (0 ≤ (mF_StepMachineModel_layShort_L177 n_177 k_177 m_rowL).1.toInt) → va_P D vwCl [(b_x, .inr (9, [.ref b_row, .ref b_part, .ref b_mem, .ref b_mrk, .ref b_sf, .ref b_ss, .ref b_sr, .int m_on, .ref b_h, .int m_hc, .ref b_r, .int m_pc, .ref b_in, .int m_giv, .int m_tak, .ref b_out, .int m_put, .int m_st, .int m_cu, .int m_va, .int m_sp, .int m_un, .ref b_k, .int m_kc, .int m_kn, .int m_by, .int m_kd, .int m_tg, .int m_ju])), (b_row, .inl (tc 0, 2400, .inl ((mF_StepMachineModel_layShort_L177 n_177 k_177 m_rowL).2)))] H → va_D A [(b_x, .inr (9, [.ref b_row, .ref b_part, .ref b_mem, .ref b_mrk, .ref b_sf, .ref b_ss, .ref b_sr, .int m_on, .ref b_h, .int m_hc, .ref b_r, .int m_pc, .ref b_in, .int m_giv, .int m_tak, .ref b_out, .int m_put, .int m_st, .int m_cu, .int m_va, .int m_sp, .int m_un, .ref b_k, .int m_kc, .int m_kn, .int m_by, .int m_kd, .int m_tg, .int m_ju])), (b_row, .inl (tc 0, 2400, .inl ((mF_StepMachineModel_layShort_L177 n_177 k_177 m_rowL).2)))] → va_S A s.heap H locs → lv_has ls 2 [(1, .int ((mF_StepMachineModel_layShort_L177 n_177 k_177 m_rowL).1)), (0, .ref b_x)] → W p l e (headSpec (wM y_M_layShort b_M_layShort 2 none) ({ frames := 3, cells := 0, slots := 0, locals := 70 })).room s m ([.ref b_x]).toArray below meth c H locs 0 0 (MQ below (va_Qv (fun u : (Nat → Int32) => u = (mF_StepMachineModel_layShort m_row)) (Bw D tc A (fun u => [(b_x, .inr (9, [.ref b_row, .ref b_part, .ref b_mem, .ref b_mrk, .ref b_sf, .ref b_ss, .ref b_sr, .int m_on, .ref b_h, .int m_hc, .ref b_r, .int m_pc, .ref b_in, .int m_giv, .int m_tak, .ref b_out, .int m_put, .int m_st, .int m_cu, .int m_va, .int m_sp, .int m_un, .ref b_k, .int m_kc, .int m_kn, .int m_by, .int m_kd, .int m_tg, .int m_ju])), (b_row, .inl (tc 0, 2400, .inl u))])) A) ([.ref b_x]).toArray s 0 0 A) (F0 m 263 ls [])) → va_P D vwCl [(b_x, .inr (9, [.ref b_row, .ref b_part, .ref b_mem, .ref b_mrk, .ref b_sf, .ref b_ss, .ref b_sr, .int m_on, .ref b_h, .int m_hc, .ref b_r, .int m_pc, .ref b_in, .int m_giv, .int m_tak, .ref b_out, .int m_put, .int m_st, .int m_cu, .int m_va, .int m_sp, .int m_un, .ref b_k, .int m_kc, .int m_kn, .int m_by, .int m_kd, .int m_tg, .int m_ju])), (b_row, .inl (tc 0, 2400, .inl m_rowL))] H → va_D A [(b_x, .inr (9, [.ref b_row, .ref b_part, .ref b_mem, .ref b_mrk, .ref b_sf, .ref b_ss, .ref b_sr, .int m_on, .ref b_h, .int m_hc, .ref b_r, .int m_pc, .ref b_in, .int m_giv, .int m_tak, .ref b_out, .int m_put, .int m_st, .int m_cu, .int m_va, .int m_sp, .int m_un, .ref b_k, .int m_kc, .int m_kn, .int m_by, .int m_kd, .int m_tg, .int m_ju])), (b_row, .inl (tc 0, 2400, .inl m_rowL))] → va_S A s.heap H locs → lv_has ls 2 [(1, .int k_177), (0, .ref b_x)] → W p l e (headSpec (wM y_M_layShort b_M_layShort 2 none) ({ frames := 3, cells := 0, slots := 0, locals := 70 })).room s m ([.ref b_x]).toArray below meth c H locs 0 0 (MQ below (va_Qv (fun u : (Nat → Int32) => u = (mF_StepMachineModel_layShort m_row)) (Bw D tc A (fun u => [(b_x, .inr (9, [.ref b_row, .ref b_part, .ref b_mem, .ref b_mrk, .ref b_sf, .ref b_ss, .ref b_sr, .int m_on, .ref b_h, .int m_hc, .ref b_r, .int m_pc, .ref b_in, .int m_giv, .int m_tak, .ref b_out, .int m_put, .int m_st, .int m_cu, .int m_va, .int m_sp, .int m_un, .ref b_k, .int m_kc, .int m_kn, .int m_by, .int m_kd, .int m_tg, .int m_ju])), (b_row, .inl (tc 0, 2400, .inl u))])) A) ([.ref b_x]).toArray s 0 0 A) (F0 m 177 ls []) := by
    intro n_177
    induction n_177 with
    | zero =>
      intro k_177 m_rowL H locs ls hq hm
      exact absurd hm (Nat.not_lt_zero _)
    | succ n_177 ih_177 =>
      intro k_177 m_rowL H locs ls hq hm_177 hX_177 hP hD hS hl
      refine lv_iload_n hx hb d_M_layShort_177 rfl (lv_at hl 0 rfl) ?_
      refine lv_bipush (v := 57) hx hb d_M_layShort_178 (by decide) ?_
      refine lv_icmp_ge (tgt := 263) hx hb d_M_layShort_180 (by decide) (fun c_180 => ?_) (fun c_180 => ?_)
      · skip
        rw [mF_StepMachineModel_layShort_L177, if_pos c_180] at hX_177
        exact hX_177 _ _ ls hq hP hD hS (lv_sub hl [0, 1] rfl)
      · skip
        refine lv_iload_n hx hb d_M_layShort_183 rfl (lv_at hl 0 rfl) ?_
        refine lv_bipush (v := 53) hx hb d_M_layShort_184 (by decide) ?_
        refine lv_icmp_eq (tgt := 257) hx hb d_M_layShort_186 (by decide) (fun c_186 => ?_) (fun c_186 => ?_)
        · skip
          refine lv_iinc (v := (k_177 + 1)) (lv' := [(1, .int (k_177 + 1)), (0, .ref b_x)]) hx hb d_M_layShort_257 hl (k := 0) rfl rfl (by decide) rfl (fun ls hl => ?_)
          refine lv_goto (tgt := 177) hx hb d_M_layShort_260 (by decide) ?_
          exact ih_177 (k_177 + 1) m_rowL _ _ ls (st_nn c_180 hq) (ms_step c_180 hm_177) (by have h := hX_177; rw [mF_StepMachineModel_layShort_L177, if_neg c_180, if_pos c_186] at h; exact h) hP hD hS (lv_sub hl [0, 1] rfl)
        · skip
          refine lv_iload_n hx hb d_M_layShort_189 rfl (lv_at hl 0 rfl) ?_
          refine lv_bipush (v := 55) hx hb d_M_layShort_190 (by decide) ?_
          refine lv_icmp_ne (tgt := 198) hx hb d_M_layShort_192 (by decide) (fun c_192 => ?_) (fun c_192 => ?_)
          · skip
            refine lv_aload_n hx hb d_M_layShort_198 rfl (lv_at hl 1 rfl) ?_
            refine lv_iload_n hx hb d_M_layShort_199 rfl (lv_at hl 0 rfl) ?_
            refine lv_iload_n hx hb d_M_layShort_200 rfl (lv_at hl 0 rfl) ?_
            refine lv_bipush (v := 52) hx hb d_M_layShort_201 (by decide) ?_
            refine lv_icmp_ne (tgt := 210) hx hb d_M_layShort_203 (by decide) (fun c_203 => ?_) (fun c_203 => ?_)
            · skip
              refine lv_iload_n hx hb d_M_layShort_210 rfl (lv_at hl 0 rfl) ?_
              refine lv_bipush (v := 54) hx hb d_M_layShort_211 (by decide) ?_
              refine lv_icmp_ne (tgt := 220) hx hb d_M_layShort_213 (by decide) (fun c_213 => ?_) (fun c_213 => ?_)
              · skip
                refine lv_iconst (v := 3) hx hb d_M_layShort_220 (by decide) ?_
                refine lv_iconst (v := 1) hx hb d_M_layShort_221 (by decide) ?_
                obtain ⟨q_222, e_222⟩ : ∃ z, z = (mF_StepMachineModel_ends m_rowL k_177 3 1) := ⟨_, rfl⟩
                refine wVv (As := [.int k_177, .int 3, .int 1]) (rest := []) e_222 ⟨hx, hb, hml, hown, hts⟩ (mc_StepMachineModel_ends l D tc tb z0 _ b_x b_row b_part b_mem b_mrk b_sf b_ss b_sr b_h b_r b_in b_out b_k m_on m_hc m_pc m_giv m_tak m_put m_st m_cu m_va m_sp m_un m_kc m_kn m_by m_kd m_tg m_ju m_rowL k_177 3 1 (k75 hq c_180 (by decide))) (cwV 3 hts (goodV a_624 a_625 a_914 a_10 a_626) rfl rfl rfl hv_M_ends ⟨Nat.le_of_ble_eq_true rfl, Nat.le_of_ble_eq_true rfl⟩) hP hD hS hA hZ hK hB [0, 1] rfl (by decide) (fun _ => rfl) rfl rfl rfl hl.1 rfl (Nat.le_of_ble_eq_true rfl) d_M_layShort_222 ⟨Nat.zero_le _, Nat.zero_le _⟩ (fun H locs hP hD hS => ?_)
                have hP : va_P D vwCl [(b_x, .inr (9, [.ref b_row, .ref b_part, .ref b_mem, .ref b_mrk, .ref b_sf, .ref b_ss, .ref b_sr, .int m_on, .ref b_h, .int m_hc, .ref b_r, .int m_pc, .ref b_in, .int m_giv, .int m_tak, .ref b_out, .int m_put, .int m_st, .int m_cu, .int m_va, .int m_sp, .int m_un, .ref b_k, .int m_kc, .int m_kn, .int m_by, .int m_kd, .int m_tg, .int m_ju])), (b_row, .inl (tc 0, 2400, .inl q_222))] H := hP
                have hD : va_D A [(b_x, .inr (9, [.ref b_row, .ref b_part, .ref b_mem, .ref b_mrk, .ref b_sf, .ref b_ss, .ref b_sr, .int m_on, .ref b_h, .int m_hc, .ref b_r, .int m_pc, .ref b_in, .int m_giv, .int m_tak, .ref b_out, .int m_put, .int m_st, .int m_cu, .int m_va, .int m_sp, .int m_un, .ref b_k, .int m_kc, .int m_kn, .int m_by, .int m_kd, .int m_tg, .int m_ju])), (b_row, .inl (tc 0, 2400, .inl q_222))] := hD
                refine lv_aload_n hx hb d_M_layShort_225 rfl (lv_at hl 1 rfl) ?_
                refine lv_iload_n hx hb d_M_layShort_226 rfl (lv_at hl 0 rfl) ?_
                refine lv_bipush (v := 12) hx hb d_M_layShort_227 (by decide) ?_
                refine lv_iconst (v := 5) hx hb d_M_layShort_229 (by decide) ?_
                obtain ⟨q_230, e_230⟩ : ∃ z, z = (mF_StepMachineModel_one q_222 k_177 12 5) := ⟨_, rfl⟩
                refine wVv (As := [.int k_177, .int 12, .int 5]) (rest := []) e_230 ⟨hx, hb, hml, hown, hts⟩ (mc_StepMachineModel_one l D tc tb z0 _ b_x b_row b_part b_mem b_mrk b_sf b_ss b_sr b_h b_r b_in b_out b_k m_on m_hc m_pc m_giv m_tak m_put m_st m_cu m_va m_sp m_un m_kc m_kn m_by m_kd m_tg m_ju q_222 k_177 12 5 (k75 hq c_180 (by decide)) (by decide)) (cwV 3 hts (goodV a_627 a_628 a_915 a_10 a_629) rfl rfl rfl hv_M_one ⟨Nat.le_of_ble_eq_true rfl, Nat.le_of_ble_eq_true rfl⟩) hP hD hS hA hZ hK hB [0, 1] rfl (by decide) (fun _ => rfl) rfl rfl rfl hl.1 rfl (Nat.le_of_ble_eq_true rfl) d_M_layShort_230 ⟨Nat.zero_le _, Nat.zero_le _⟩ (fun H locs hP hD hS => ?_)
                have hP : va_P D vwCl [(b_x, .inr (9, [.ref b_row, .ref b_part, .ref b_mem, .ref b_mrk, .ref b_sf, .ref b_ss, .ref b_sr, .int m_on, .ref b_h, .int m_hc, .ref b_r, .int m_pc, .ref b_in, .int m_giv, .int m_tak, .ref b_out, .int m_put, .int m_st, .int m_cu, .int m_va, .int m_sp, .int m_un, .ref b_k, .int m_kc, .int m_kn, .int m_by, .int m_kd, .int m_tg, .int m_ju])), (b_row, .inl (tc 0, 2400, .inl q_230))] H := hP
                have hD : va_D A [(b_x, .inr (9, [.ref b_row, .ref b_part, .ref b_mem, .ref b_mrk, .ref b_sf, .ref b_ss, .ref b_sr, .int m_on, .ref b_h, .int m_hc, .ref b_r, .int m_pc, .ref b_in, .int m_giv, .int m_tak, .ref b_out, .int m_put, .int m_st, .int m_cu, .int m_va, .int m_sp, .int m_un, .ref b_k, .int m_kc, .int m_kn, .int m_by, .int m_kd, .int m_tg, .int m_ju])), (b_row, .inl (tc 0, 2400, .inl q_230))] := hD
                refine lv_aload_n hx hb d_M_layShort_233 rfl (lv_at hl 1 rfl) ?_
                refine lv_iload_n hx hb d_M_layShort_234 rfl (lv_at hl 0 rfl) ?_
                refine lv_bipush (v := 11) hx hb d_M_layShort_235 (by decide) ?_
                refine lv_bipush (v := 7) hx hb d_M_layShort_237 (by decide) ?_
                refine lv_bipush (v := 100) hx hb d_M_layShort_239 (by decide) ?_
                refine lv_iconst (v := 4) hx hb d_M_layShort_241 (by decide) ?_
                obtain ⟨q_242, e_242⟩ : ∃ z, z = (mF_StepMachineModel_lay q_230 k_177 11 7 100 4) := ⟨_, rfl⟩
                refine wVv (As := [.int k_177, .int 11, .int 7, .int 100, .int 4]) (rest := []) e_242 ⟨hx, hb, hml, hown, hts⟩ (mc_StepMachineModel_lay l D tc tb z0 _ b_x b_row b_part b_mem b_mrk b_sf b_ss b_sr b_h b_r b_in b_out b_k m_on m_hc m_pc m_giv m_tak m_put m_st m_cu m_va m_sp m_un m_kc m_kn m_by m_kd m_tg m_ju q_230 k_177 11 7 100 4 (k75 hq c_180 (by decide)) (by decide) (by decide)) (cwV 5 hts (goodV a_603 a_604 a_912 a_10 a_605) rfl rfl rfl hv_M_lay ⟨Nat.le_of_ble_eq_true rfl, Nat.le_of_ble_eq_true rfl⟩) hP hD hS hA hZ hK hB [0, 1] rfl (by decide) (fun _ => rfl) rfl rfl rfl hl.1 rfl (Nat.le_of_ble_eq_true rfl) d_M_layShort_242 ⟨Nat.zero_le _, Nat.zero_le _⟩ (fun H locs hP hD hS => ?_)
                have hP : va_P D vwCl [(b_x, .inr (9, [.ref b_row, .ref b_part, .ref b_mem, .ref b_mrk, .ref b_sf, .ref b_ss, .ref b_sr, .int m_on, .ref b_h, .int m_hc, .ref b_r, .int m_pc, .ref b_in, .int m_giv, .int m_tak, .ref b_out, .int m_put, .int m_st, .int m_cu, .int m_va, .int m_sp, .int m_un, .ref b_k, .int m_kc, .int m_kn, .int m_by, .int m_kd, .int m_tg, .int m_ju])), (b_row, .inl (tc 0, 2400, .inl q_242))] H := hP
                have hD : va_D A [(b_x, .inr (9, [.ref b_row, .ref b_part, .ref b_mem, .ref b_mrk, .ref b_sf, .ref b_ss, .ref b_sr, .int m_on, .ref b_h, .int m_hc, .ref b_r, .int m_pc, .ref b_in, .int m_giv, .int m_tak, .ref b_out, .int m_put, .int m_st, .int m_cu, .int m_va, .int m_sp, .int m_un, .ref b_k, .int m_kc, .int m_kn, .int m_by, .int m_kd, .int m_tg, .int m_ju])), (b_row, .inl (tc 0, 2400, .inl q_242))] := hD
                refine lv_aload_n hx hb d_M_layShort_245 rfl (lv_at hl 1 rfl) ?_
                refine lv_iload_n hx hb d_M_layShort_246 rfl (lv_at hl 0 rfl) ?_
                refine lv_bipush (v := 6) hx hb d_M_layShort_247 (by decide) ?_
                refine lv_iconst (v := 2) hx hb d_M_layShort_249 (by decide) ?_
                refine lv_sipush (v := 400) hx hb d_M_layShort_250 (by decide) ?_
                refine lv_iconst (v := 4) hx hb d_M_layShort_253 (by decide) ?_
                obtain ⟨q_254, e_254⟩ : ∃ z, z = (mF_StepMachineModel_lay q_242 k_177 6 2 400 4) := ⟨_, rfl⟩
                refine wVv (As := [.int k_177, .int 6, .int 2, .int 400, .int 4]) (rest := []) e_254 ⟨hx, hb, hml, hown, hts⟩ (mc_StepMachineModel_lay l D tc tb z0 _ b_x b_row b_part b_mem b_mrk b_sf b_ss b_sr b_h b_r b_in b_out b_k m_on m_hc m_pc m_giv m_tak m_put m_st m_cu m_va m_sp m_un m_kc m_kn m_by m_kd m_tg m_ju q_242 k_177 6 2 400 4 (k75 hq c_180 (by decide)) (by decide) (by decide)) (cwV 5 hts (goodV a_603 a_604 a_912 a_10 a_605) rfl rfl rfl hv_M_lay ⟨Nat.le_of_ble_eq_true rfl, Nat.le_of_ble_eq_true rfl⟩) hP hD hS hA hZ hK hB [0, 1] rfl (by decide) (fun _ => rfl) rfl rfl rfl hl.1 rfl (Nat.le_of_ble_eq_true rfl) d_M_layShort_254 ⟨Nat.zero_le _, Nat.zero_le _⟩ (fun H locs hP hD hS => ?_)
                have hP : va_P D vwCl [(b_x, .inr (9, [.ref b_row, .ref b_part, .ref b_mem, .ref b_mrk, .ref b_sf, .ref b_ss, .ref b_sr, .int m_on, .ref b_h, .int m_hc, .ref b_r, .int m_pc, .ref b_in, .int m_giv, .int m_tak, .ref b_out, .int m_put, .int m_st, .int m_cu, .int m_va, .int m_sp, .int m_un, .ref b_k, .int m_kc, .int m_kn, .int m_by, .int m_kd, .int m_tg, .int m_ju])), (b_row, .inl (tc 0, 2400, .inl q_254))] H := hP
                have hD : va_D A [(b_x, .inr (9, [.ref b_row, .ref b_part, .ref b_mem, .ref b_mrk, .ref b_sf, .ref b_ss, .ref b_sr, .int m_on, .ref b_h, .int m_hc, .ref b_r, .int m_pc, .ref b_in, .int m_giv, .int m_tak, .ref b_out, .int m_put, .int m_st, .int m_cu, .int m_va, .int m_sp, .int m_un, .ref b_k, .int m_kc, .int m_kn, .int m_by, .int m_kd, .int m_tg, .int m_ju])), (b_row, .inl (tc 0, 2400, .inl q_254))] := hD
                refine lv_iinc (v := (k_177 + 1)) (lv' := [(1, .int (k_177 + 1)), (0, .ref b_x)]) hx hb d_M_layShort_257 hl (k := 0) rfl rfl (by decide) rfl (fun ls hl => ?_)
                refine lv_goto (tgt := 177) hx hb d_M_layShort_260 (by decide) ?_
                exact ih_177 (k_177 + 1) q_254 _ _ ls (st_nn c_180 hq) (ms_step c_180 hm_177) (by have h := hX_177; rw [mF_StepMachineModel_layShort_L177, if_neg c_180, if_neg c_186, if_neg c_192, if_neg c_203, if_neg c_213, ← e_222, mF_StepMachineModel_layShort_21, ← e_230, mF_StepMachineModel_layShort_22, ← e_242, mF_StepMachineModel_layShort_23, ← e_254, mF_StepMachineModel_layShort_24] at h; exact h) hP hD hS (lv_sub hl [0, 1] rfl)
              · skip
                refine lv_iconst (v := 2) hx hb d_M_layShort_216 (by decide) ?_
                refine lv_goto (tgt := 221) hx hb d_M_layShort_217 (by decide) ?_
                refine lv_iconst (v := 1) hx hb d_M_layShort_221 (by decide) ?_
                obtain ⟨q_222, e_222⟩ : ∃ z, z = (mF_StepMachineModel_ends m_rowL k_177 2 1) := ⟨_, rfl⟩
                refine wVv (As := [.int k_177, .int 2, .int 1]) (rest := []) e_222 ⟨hx, hb, hml, hown, hts⟩ (mc_StepMachineModel_ends l D tc tb z0 _ b_x b_row b_part b_mem b_mrk b_sf b_ss b_sr b_h b_r b_in b_out b_k m_on m_hc m_pc m_giv m_tak m_put m_st m_cu m_va m_sp m_un m_kc m_kn m_by m_kd m_tg m_ju m_rowL k_177 2 1 (k75 hq c_180 (by decide))) (cwV 3 hts (goodV a_624 a_625 a_914 a_10 a_626) rfl rfl rfl hv_M_ends ⟨Nat.le_of_ble_eq_true rfl, Nat.le_of_ble_eq_true rfl⟩) hP hD hS hA hZ hK hB [0, 1] rfl (by decide) (fun _ => rfl) rfl rfl rfl hl.1 rfl (Nat.le_of_ble_eq_true rfl) d_M_layShort_222 ⟨Nat.zero_le _, Nat.zero_le _⟩ (fun H locs hP hD hS => ?_)
                have hP : va_P D vwCl [(b_x, .inr (9, [.ref b_row, .ref b_part, .ref b_mem, .ref b_mrk, .ref b_sf, .ref b_ss, .ref b_sr, .int m_on, .ref b_h, .int m_hc, .ref b_r, .int m_pc, .ref b_in, .int m_giv, .int m_tak, .ref b_out, .int m_put, .int m_st, .int m_cu, .int m_va, .int m_sp, .int m_un, .ref b_k, .int m_kc, .int m_kn, .int m_by, .int m_kd, .int m_tg, .int m_ju])), (b_row, .inl (tc 0, 2400, .inl q_222))] H := hP
                have hD : va_D A [(b_x, .inr (9, [.ref b_row, .ref b_part, .ref b_mem, .ref b_mrk, .ref b_sf, .ref b_ss, .ref b_sr, .int m_on, .ref b_h, .int m_hc, .ref b_r, .int m_pc, .ref b_in, .int m_giv, .int m_tak, .ref b_out, .int m_put, .int m_st, .int m_cu, .int m_va, .int m_sp, .int m_un, .ref b_k, .int m_kc, .int m_kn, .int m_by, .int m_kd, .int m_tg, .int m_ju])), (b_row, .inl (tc 0, 2400, .inl q_222))] := hD
                refine lv_aload_n hx hb d_M_layShort_225 rfl (lv_at hl 1 rfl) ?_
                refine lv_iload_n hx hb d_M_layShort_226 rfl (lv_at hl 0 rfl) ?_
                refine lv_bipush (v := 12) hx hb d_M_layShort_227 (by decide) ?_
                refine lv_iconst (v := 5) hx hb d_M_layShort_229 (by decide) ?_
                obtain ⟨q_230, e_230⟩ : ∃ z, z = (mF_StepMachineModel_one q_222 k_177 12 5) := ⟨_, rfl⟩
                refine wVv (As := [.int k_177, .int 12, .int 5]) (rest := []) e_230 ⟨hx, hb, hml, hown, hts⟩ (mc_StepMachineModel_one l D tc tb z0 _ b_x b_row b_part b_mem b_mrk b_sf b_ss b_sr b_h b_r b_in b_out b_k m_on m_hc m_pc m_giv m_tak m_put m_st m_cu m_va m_sp m_un m_kc m_kn m_by m_kd m_tg m_ju q_222 k_177 12 5 (k75 hq c_180 (by decide)) (by decide)) (cwV 3 hts (goodV a_627 a_628 a_915 a_10 a_629) rfl rfl rfl hv_M_one ⟨Nat.le_of_ble_eq_true rfl, Nat.le_of_ble_eq_true rfl⟩) hP hD hS hA hZ hK hB [0, 1] rfl (by decide) (fun _ => rfl) rfl rfl rfl hl.1 rfl (Nat.le_of_ble_eq_true rfl) d_M_layShort_230 ⟨Nat.zero_le _, Nat.zero_le _⟩ (fun H locs hP hD hS => ?_)
                have hP : va_P D vwCl [(b_x, .inr (9, [.ref b_row, .ref b_part, .ref b_mem, .ref b_mrk, .ref b_sf, .ref b_ss, .ref b_sr, .int m_on, .ref b_h, .int m_hc, .ref b_r, .int m_pc, .ref b_in, .int m_giv, .int m_tak, .ref b_out, .int m_put, .int m_st, .int m_cu, .int m_va, .int m_sp, .int m_un, .ref b_k, .int m_kc, .int m_kn, .int m_by, .int m_kd, .int m_tg, .int m_ju])), (b_row, .inl (tc 0, 2400, .inl q_230))] H := hP
                have hD : va_D A [(b_x, .inr (9, [.ref b_row, .ref b_part, .ref b_mem, .ref b_mrk, .ref b_sf, .ref b_ss, .ref b_sr, .int m_on, .ref b_h, .int m_hc, .ref b_r, .int m_pc, .ref b_in, .int m_giv, .int m_tak, .ref b_out, .int m_put, .int m_st, .int m_cu, .int m_va, .int m_sp, .int m_un, .ref b_k, .int m_kc, .int m_kn, .int m_by, .int m_kd, .int m_tg, .int m_ju])), (b_row, .inl (tc 0, 2400, .inl q_230))] := hD
                refine lv_aload_n hx hb d_M_layShort_233 rfl (lv_at hl 1 rfl) ?_
                refine lv_iload_n hx hb d_M_layShort_234 rfl (lv_at hl 0 rfl) ?_
                refine lv_bipush (v := 11) hx hb d_M_layShort_235 (by decide) ?_
                refine lv_bipush (v := 7) hx hb d_M_layShort_237 (by decide) ?_
                refine lv_bipush (v := 100) hx hb d_M_layShort_239 (by decide) ?_
                refine lv_iconst (v := 4) hx hb d_M_layShort_241 (by decide) ?_
                obtain ⟨q_242, e_242⟩ : ∃ z, z = (mF_StepMachineModel_lay q_230 k_177 11 7 100 4) := ⟨_, rfl⟩
                refine wVv (As := [.int k_177, .int 11, .int 7, .int 100, .int 4]) (rest := []) e_242 ⟨hx, hb, hml, hown, hts⟩ (mc_StepMachineModel_lay l D tc tb z0 _ b_x b_row b_part b_mem b_mrk b_sf b_ss b_sr b_h b_r b_in b_out b_k m_on m_hc m_pc m_giv m_tak m_put m_st m_cu m_va m_sp m_un m_kc m_kn m_by m_kd m_tg m_ju q_230 k_177 11 7 100 4 (k75 hq c_180 (by decide)) (by decide) (by decide)) (cwV 5 hts (goodV a_603 a_604 a_912 a_10 a_605) rfl rfl rfl hv_M_lay ⟨Nat.le_of_ble_eq_true rfl, Nat.le_of_ble_eq_true rfl⟩) hP hD hS hA hZ hK hB [0, 1] rfl (by decide) (fun _ => rfl) rfl rfl rfl hl.1 rfl (Nat.le_of_ble_eq_true rfl) d_M_layShort_242 ⟨Nat.zero_le _, Nat.zero_le _⟩ (fun H locs hP hD hS => ?_)
                have hP : va_P D vwCl [(b_x, .inr (9, [.ref b_row, .ref b_part, .ref b_mem, .ref b_mrk, .ref b_sf, .ref b_ss, .ref b_sr, .int m_on, .ref b_h, .int m_hc, .ref b_r, .int m_pc, .ref b_in, .int m_giv, .int m_tak, .ref b_out, .int m_put, .int m_st, .int m_cu, .int m_va, .int m_sp, .int m_un, .ref b_k, .int m_kc, .int m_kn, .int m_by, .int m_kd, .int m_tg, .int m_ju])), (b_row, .inl (tc 0, 2400, .inl q_242))] H := hP
                have hD : va_D A [(b_x, .inr (9, [.ref b_row, .ref b_part, .ref b_mem, .ref b_mrk, .ref b_sf, .ref b_ss, .ref b_sr, .int m_on, .ref b_h, .int m_hc, .ref b_r, .int m_pc, .ref b_in, .int m_giv, .int m_tak, .ref b_out, .int m_put, .int m_st, .int m_cu, .int m_va, .int m_sp, .int m_un, .ref b_k, .int m_kc, .int m_kn, .int m_by, .int m_kd, .int m_tg, .int m_ju])), (b_row, .inl (tc 0, 2400, .inl q_242))] := hD
                refine lv_aload_n hx hb d_M_layShort_245 rfl (lv_at hl 1 rfl) ?_
                refine lv_iload_n hx hb d_M_layShort_246 rfl (lv_at hl 0 rfl) ?_
                refine lv_bipush (v := 6) hx hb d_M_layShort_247 (by decide) ?_
                refine lv_iconst (v := 2) hx hb d_M_layShort_249 (by decide) ?_
                refine lv_sipush (v := 400) hx hb d_M_layShort_250 (by decide) ?_
                refine lv_iconst (v := 4) hx hb d_M_layShort_253 (by decide) ?_
                obtain ⟨q_254, e_254⟩ : ∃ z, z = (mF_StepMachineModel_lay q_242 k_177 6 2 400 4) := ⟨_, rfl⟩
                refine wVv (As := [.int k_177, .int 6, .int 2, .int 400, .int 4]) (rest := []) e_254 ⟨hx, hb, hml, hown, hts⟩ (mc_StepMachineModel_lay l D tc tb z0 _ b_x b_row b_part b_mem b_mrk b_sf b_ss b_sr b_h b_r b_in b_out b_k m_on m_hc m_pc m_giv m_tak m_put m_st m_cu m_va m_sp m_un m_kc m_kn m_by m_kd m_tg m_ju q_242 k_177 6 2 400 4 (k75 hq c_180 (by decide)) (by decide) (by decide)) (cwV 5 hts (goodV a_603 a_604 a_912 a_10 a_605) rfl rfl rfl hv_M_lay ⟨Nat.le_of_ble_eq_true rfl, Nat.le_of_ble_eq_true rfl⟩) hP hD hS hA hZ hK hB [0, 1] rfl (by decide) (fun _ => rfl) rfl rfl rfl hl.1 rfl (Nat.le_of_ble_eq_true rfl) d_M_layShort_254 ⟨Nat.zero_le _, Nat.zero_le _⟩ (fun H locs hP hD hS => ?_)
                have hP : va_P D vwCl [(b_x, .inr (9, [.ref b_row, .ref b_part, .ref b_mem, .ref b_mrk, .ref b_sf, .ref b_ss, .ref b_sr, .int m_on, .ref b_h, .int m_hc, .ref b_r, .int m_pc, .ref b_in, .int m_giv, .int m_tak, .ref b_out, .int m_put, .int m_st, .int m_cu, .int m_va, .int m_sp, .int m_un, .ref b_k, .int m_kc, .int m_kn, .int m_by, .int m_kd, .int m_tg, .int m_ju])), (b_row, .inl (tc 0, 2400, .inl q_254))] H := hP
                have hD : va_D A [(b_x, .inr (9, [.ref b_row, .ref b_part, .ref b_mem, .ref b_mrk, .ref b_sf, .ref b_ss, .ref b_sr, .int m_on, .ref b_h, .int m_hc, .ref b_r, .int m_pc, .ref b_in, .int m_giv, .int m_tak, .ref b_out, .int m_put, .int m_st, .int m_cu, .int m_va, .int m_sp, .int m_un, .ref b_k, .int m_kc, .int m_kn, .int m_by, .int m_kd, .int m_tg, .int m_ju])), (b_row, .inl (tc 0, 2400, .inl q_254))] := hD
                refine lv_iinc (v := (k_177 + 1)) (lv' := [(1, .int (k_177 + 1)), (0, .ref b_x)]) hx hb d_M_layShort_257 hl (k := 0) rfl rfl (by decide) rfl (fun ls hl => ?_)
                refine lv_goto (tgt := 177) hx hb d_M_layShort_260 (by decide) ?_
                exact ih_177 (k_177 + 1) q_254 _ _ ls (st_nn c_180 hq) (ms_step c_180 hm_177) (by have h := hX_177; rw [mF_StepMachineModel_layShort_L177, if_neg c_180, if_neg c_186, if_neg c_192, if_neg c_203, if_pos c_213, ← e_222, mF_StepMachineModel_layShort_25, ← e_230, mF_StepMachineModel_layShort_26, ← e_242, mF_StepMachineModel_layShort_27, ← e_254, mF_StepMachineModel_layShort_28] at h; exact h) hP hD hS (lv_sub hl [0, 1] rfl)
            · skip
              refine lv_iconst (v := 0) hx hb d_M_layShort_206 (by decide) ?_
              refine lv_goto (tgt := 221) hx hb d_M_layShort_207 (by decide) ?_
              refine lv_iconst (v := 1) hx hb d_M_layShort_221 (by decide) ?_
              obtain ⟨q_222, e_222⟩ : ∃ z, z = (mF_StepMachineModel_ends m_rowL k_177 0 1) := ⟨_, rfl⟩
              refine wVv (As := [.int k_177, .int 0, .int 1]) (rest := []) e_222 ⟨hx, hb, hml, hown, hts⟩ (mc_StepMachineModel_ends l D tc tb z0 _ b_x b_row b_part b_mem b_mrk b_sf b_ss b_sr b_h b_r b_in b_out b_k m_on m_hc m_pc m_giv m_tak m_put m_st m_cu m_va m_sp m_un m_kc m_kn m_by m_kd m_tg m_ju m_rowL k_177 0 1 (k75 hq c_180 (by decide))) (cwV 3 hts (goodV a_624 a_625 a_914 a_10 a_626) rfl rfl rfl hv_M_ends ⟨Nat.le_of_ble_eq_true rfl, Nat.le_of_ble_eq_true rfl⟩) hP hD hS hA hZ hK hB [0, 1] rfl (by decide) (fun _ => rfl) rfl rfl rfl hl.1 rfl (Nat.le_of_ble_eq_true rfl) d_M_layShort_222 ⟨Nat.zero_le _, Nat.zero_le _⟩ (fun H locs hP hD hS => ?_)
              have hP : va_P D vwCl [(b_x, .inr (9, [.ref b_row, .ref b_part, .ref b_mem, .ref b_mrk, .ref b_sf, .ref b_ss, .ref b_sr, .int m_on, .ref b_h, .int m_hc, .ref b_r, .int m_pc, .ref b_in, .int m_giv, .int m_tak, .ref b_out, .int m_put, .int m_st, .int m_cu, .int m_va, .int m_sp, .int m_un, .ref b_k, .int m_kc, .int m_kn, .int m_by, .int m_kd, .int m_tg, .int m_ju])), (b_row, .inl (tc 0, 2400, .inl q_222))] H := hP
              have hD : va_D A [(b_x, .inr (9, [.ref b_row, .ref b_part, .ref b_mem, .ref b_mrk, .ref b_sf, .ref b_ss, .ref b_sr, .int m_on, .ref b_h, .int m_hc, .ref b_r, .int m_pc, .ref b_in, .int m_giv, .int m_tak, .ref b_out, .int m_put, .int m_st, .int m_cu, .int m_va, .int m_sp, .int m_un, .ref b_k, .int m_kc, .int m_kn, .int m_by, .int m_kd, .int m_tg, .int m_ju])), (b_row, .inl (tc 0, 2400, .inl q_222))] := hD
              refine lv_aload_n hx hb d_M_layShort_225 rfl (lv_at hl 1 rfl) ?_
              refine lv_iload_n hx hb d_M_layShort_226 rfl (lv_at hl 0 rfl) ?_
              refine lv_bipush (v := 12) hx hb d_M_layShort_227 (by decide) ?_
              refine lv_iconst (v := 5) hx hb d_M_layShort_229 (by decide) ?_
              obtain ⟨q_230, e_230⟩ : ∃ z, z = (mF_StepMachineModel_one q_222 k_177 12 5) := ⟨_, rfl⟩
              refine wVv (As := [.int k_177, .int 12, .int 5]) (rest := []) e_230 ⟨hx, hb, hml, hown, hts⟩ (mc_StepMachineModel_one l D tc tb z0 _ b_x b_row b_part b_mem b_mrk b_sf b_ss b_sr b_h b_r b_in b_out b_k m_on m_hc m_pc m_giv m_tak m_put m_st m_cu m_va m_sp m_un m_kc m_kn m_by m_kd m_tg m_ju q_222 k_177 12 5 (k75 hq c_180 (by decide)) (by decide)) (cwV 3 hts (goodV a_627 a_628 a_915 a_10 a_629) rfl rfl rfl hv_M_one ⟨Nat.le_of_ble_eq_true rfl, Nat.le_of_ble_eq_true rfl⟩) hP hD hS hA hZ hK hB [0, 1] rfl (by decide) (fun _ => rfl) rfl rfl rfl hl.1 rfl (Nat.le_of_ble_eq_true rfl) d_M_layShort_230 ⟨Nat.zero_le _, Nat.zero_le _⟩ (fun H locs hP hD hS => ?_)
              have hP : va_P D vwCl [(b_x, .inr (9, [.ref b_row, .ref b_part, .ref b_mem, .ref b_mrk, .ref b_sf, .ref b_ss, .ref b_sr, .int m_on, .ref b_h, .int m_hc, .ref b_r, .int m_pc, .ref b_in, .int m_giv, .int m_tak, .ref b_out, .int m_put, .int m_st, .int m_cu, .int m_va, .int m_sp, .int m_un, .ref b_k, .int m_kc, .int m_kn, .int m_by, .int m_kd, .int m_tg, .int m_ju])), (b_row, .inl (tc 0, 2400, .inl q_230))] H := hP
              have hD : va_D A [(b_x, .inr (9, [.ref b_row, .ref b_part, .ref b_mem, .ref b_mrk, .ref b_sf, .ref b_ss, .ref b_sr, .int m_on, .ref b_h, .int m_hc, .ref b_r, .int m_pc, .ref b_in, .int m_giv, .int m_tak, .ref b_out, .int m_put, .int m_st, .int m_cu, .int m_va, .int m_sp, .int m_un, .ref b_k, .int m_kc, .int m_kn, .int m_by, .int m_kd, .int m_tg, .int m_ju])), (b_row, .inl (tc 0, 2400, .inl q_230))] := hD
              refine lv_aload_n hx hb d_M_layShort_233 rfl (lv_at hl 1 rfl) ?_
              refine lv_iload_n hx hb d_M_layShort_234 rfl (lv_at hl 0 rfl) ?_
              refine lv_bipush (v := 11) hx hb d_M_layShort_235 (by decide) ?_
              refine lv_bipush (v := 7) hx hb d_M_layShort_237 (by decide) ?_
              refine lv_bipush (v := 100) hx hb d_M_layShort_239 (by decide) ?_
              refine lv_iconst (v := 4) hx hb d_M_layShort_241 (by decide) ?_
              obtain ⟨q_242, e_242⟩ : ∃ z, z = (mF_StepMachineModel_lay q_230 k_177 11 7 100 4) := ⟨_, rfl⟩
              refine wVv (As := [.int k_177, .int 11, .int 7, .int 100, .int 4]) (rest := []) e_242 ⟨hx, hb, hml, hown, hts⟩ (mc_StepMachineModel_lay l D tc tb z0 _ b_x b_row b_part b_mem b_mrk b_sf b_ss b_sr b_h b_r b_in b_out b_k m_on m_hc m_pc m_giv m_tak m_put m_st m_cu m_va m_sp m_un m_kc m_kn m_by m_kd m_tg m_ju q_230 k_177 11 7 100 4 (k75 hq c_180 (by decide)) (by decide) (by decide)) (cwV 5 hts (goodV a_603 a_604 a_912 a_10 a_605) rfl rfl rfl hv_M_lay ⟨Nat.le_of_ble_eq_true rfl, Nat.le_of_ble_eq_true rfl⟩) hP hD hS hA hZ hK hB [0, 1] rfl (by decide) (fun _ => rfl) rfl rfl rfl hl.1 rfl (Nat.le_of_ble_eq_true rfl) d_M_layShort_242 ⟨Nat.zero_le _, Nat.zero_le _⟩ (fun H locs hP hD hS => ?_)
              have hP : va_P D vwCl [(b_x, .inr (9, [.ref b_row, .ref b_part, .ref b_mem, .ref b_mrk, .ref b_sf, .ref b_ss, .ref b_sr, .int m_on, .ref b_h, .int m_hc, .ref b_r, .int m_pc, .ref b_in, .int m_giv, .int m_tak, .ref b_out, .int m_put, .int m_st, .int m_cu, .int m_va, .int m_sp, .int m_un, .ref b_k, .int m_kc, .int m_kn, .int m_by, .int m_kd, .int m_tg, .int m_ju])), (b_row, .inl (tc 0, 2400, .inl q_242))] H := hP
              have hD : va_D A [(b_x, .inr (9, [.ref b_row, .ref b_part, .ref b_mem, .ref b_mrk, .ref b_sf, .ref b_ss, .ref b_sr, .int m_on, .ref b_h, .int m_hc, .ref b_r, .int m_pc, .ref b_in, .int m_giv, .int m_tak, .ref b_out, .int m_put, .int m_st, .int m_cu, .int m_va, .int m_sp, .int m_un, .ref b_k, .int m_kc, .int m_kn, .int m_by, .int m_kd, .int m_tg, .int m_ju])), (b_row, .inl (tc 0, 2400, .inl q_242))] := hD
              refine lv_aload_n hx hb d_M_layShort_245 rfl (lv_at hl 1 rfl) ?_
              refine lv_iload_n hx hb d_M_layShort_246 rfl (lv_at hl 0 rfl) ?_
              refine lv_bipush (v := 6) hx hb d_M_layShort_247 (by decide) ?_
              refine lv_iconst (v := 2) hx hb d_M_layShort_249 (by decide) ?_
              refine lv_sipush (v := 400) hx hb d_M_layShort_250 (by decide) ?_
              refine lv_iconst (v := 4) hx hb d_M_layShort_253 (by decide) ?_
              obtain ⟨q_254, e_254⟩ : ∃ z, z = (mF_StepMachineModel_lay q_242 k_177 6 2 400 4) := ⟨_, rfl⟩
              refine wVv (As := [.int k_177, .int 6, .int 2, .int 400, .int 4]) (rest := []) e_254 ⟨hx, hb, hml, hown, hts⟩ (mc_StepMachineModel_lay l D tc tb z0 _ b_x b_row b_part b_mem b_mrk b_sf b_ss b_sr b_h b_r b_in b_out b_k m_on m_hc m_pc m_giv m_tak m_put m_st m_cu m_va m_sp m_un m_kc m_kn m_by m_kd m_tg m_ju q_242 k_177 6 2 400 4 (k75 hq c_180 (by decide)) (by decide) (by decide)) (cwV 5 hts (goodV a_603 a_604 a_912 a_10 a_605) rfl rfl rfl hv_M_lay ⟨Nat.le_of_ble_eq_true rfl, Nat.le_of_ble_eq_true rfl⟩) hP hD hS hA hZ hK hB [0, 1] rfl (by decide) (fun _ => rfl) rfl rfl rfl hl.1 rfl (Nat.le_of_ble_eq_true rfl) d_M_layShort_254 ⟨Nat.zero_le _, Nat.zero_le _⟩ (fun H locs hP hD hS => ?_)
              have hP : va_P D vwCl [(b_x, .inr (9, [.ref b_row, .ref b_part, .ref b_mem, .ref b_mrk, .ref b_sf, .ref b_ss, .ref b_sr, .int m_on, .ref b_h, .int m_hc, .ref b_r, .int m_pc, .ref b_in, .int m_giv, .int m_tak, .ref b_out, .int m_put, .int m_st, .int m_cu, .int m_va, .int m_sp, .int m_un, .ref b_k, .int m_kc, .int m_kn, .int m_by, .int m_kd, .int m_tg, .int m_ju])), (b_row, .inl (tc 0, 2400, .inl q_254))] H := hP
              have hD : va_D A [(b_x, .inr (9, [.ref b_row, .ref b_part, .ref b_mem, .ref b_mrk, .ref b_sf, .ref b_ss, .ref b_sr, .int m_on, .ref b_h, .int m_hc, .ref b_r, .int m_pc, .ref b_in, .int m_giv, .int m_tak, .ref b_out, .int m_put, .int m_st, .int m_cu, .int m_va, .int m_sp, .int m_un, .ref b_k, .int m_kc, .int m_kn, .int m_by, .int m_kd, .int m_tg, .int m_ju])), (b_row, .inl (tc 0, 2400, .inl q_254))] := hD
              refine lv_iinc (v := (k_177 + 1)) (lv' := [(1, .int (k_177 + 1)), (0, .ref b_x)]) hx hb d_M_layShort_257 hl (k := 0) rfl rfl (by decide) rfl (fun ls hl => ?_)
              refine lv_goto (tgt := 177) hx hb d_M_layShort_260 (by decide) ?_
              exact ih_177 (k_177 + 1) q_254 _ _ ls (st_nn c_180 hq) (ms_step c_180 hm_177) (by have h := hX_177; rw [mF_StepMachineModel_layShort_L177, if_neg c_180, if_neg c_186, if_neg c_192, if_pos c_203, ← e_222, mF_StepMachineModel_layShort_29, ← e_230, mF_StepMachineModel_layShort_30, ← e_242, mF_StepMachineModel_layShort_31, ← e_254, mF_StepMachineModel_layShort_32] at h; exact h) hP hD hS (lv_sub hl [0, 1] rfl)
          · skip
            refine lv_goto (tgt := 257) hx hb d_M_layShort_195 (by decide) ?_
            refine lv_iinc (v := (k_177 + 1)) (lv' := [(1, .int (k_177 + 1)), (0, .ref b_x)]) hx hb d_M_layShort_257 hl (k := 0) rfl rfl (by decide) rfl (fun ls hl => ?_)
            refine lv_goto (tgt := 177) hx hb d_M_layShort_260 (by decide) ?_
            exact ih_177 (k_177 + 1) m_rowL _ _ ls (st_nn c_180 hq) (ms_step c_180 hm_177) (by have h := hX_177; rw [mF_StepMachineModel_layShort_L177, if_neg c_180, if_neg c_186, if_pos c_192] at h; exact h) hP hD hS (lv_sub hl [0, 1] rfl)
  obtain ⟨q_177, e_177⟩ : ∃ z, z = (mF_StepMachineModel_layShort_L177 (((57 : Int32).toInt - (52 : Int32).toInt).toNat + 1) (52 : Int32) q_171) := ⟨_, rfl⟩
  refine loop_177 (((57 : Int32).toInt - (52 : Int32).toInt).toNat + 1) (52 : Int32) q_171 _ _ ls (by decide) (Nat.lt_succ_self _) ?_ hP hD hS (lv_sub hl [0, 1] rfl)
  rw [← e_177]
  intro H locs ls hq hP hD hS hl
  have hP : va_P D vwCl [(b_x, .inr (9, [.ref b_row, .ref b_part, .ref b_mem, .ref b_mrk, .ref b_sf, .ref b_ss, .ref b_sr, .int m_on, .ref b_h, .int m_hc, .ref b_r, .int m_pc, .ref b_in, .int m_giv, .int m_tak, .ref b_out, .int m_put, .int m_st, .int m_cu, .int m_va, .int m_sp, .int m_un, .ref b_k, .int m_kc, .int m_kn, .int m_by, .int m_kd, .int m_tg, .int m_ju])), (b_row, .inl (tc 0, 2400, .inl q_177.2))] H := hP
  have hD : va_D A [(b_x, .inr (9, [.ref b_row, .ref b_part, .ref b_mem, .ref b_mrk, .ref b_sf, .ref b_ss, .ref b_sr, .int m_on, .ref b_h, .int m_hc, .ref b_r, .int m_pc, .ref b_in, .int m_giv, .int m_tak, .ref b_out, .int m_put, .int m_st, .int m_cu, .int m_va, .int m_sp, .int m_un, .ref b_k, .int m_kc, .int m_kn, .int m_by, .int m_kd, .int m_tg, .int m_ju])), (b_row, .inl (tc 0, 2400, .inl q_177.2))] := hD
  have hl : lv_has ls 2 [(1, .int q_177.1), (0, .ref b_x)] := hl
  refine lv_aload_n hx hb d_M_layShort_263 rfl (lv_at hl 1 rfl) ?_
  refine lv_bipush (v := 53) hx hb d_M_layShort_264 (by decide) ?_
  refine lv_iconst (v := 1) hx hb d_M_layShort_266 (by decide) ?_
  obtain ⟨q_267, e_267⟩ : ∃ z, z = (mF_StepMachineModel_layJump q_177.2 53 1) := ⟨_, rfl⟩
  refine wVv (As := [.int 53, .int 1]) (rest := []) e_267 ⟨hx, hb, hml, hown, hts⟩ (mc_StepMachineModel_layJump l D tc tb z0 _ b_x b_row b_part b_mem b_mrk b_sf b_ss b_sr b_h b_r b_in b_out b_k m_on m_hc m_pc m_giv m_tak m_put m_st m_cu m_va m_sp m_un m_kc m_kn m_by m_kd m_tg m_ju q_177.2 53 1 (by decide)) (cwV 2 hts (goodV a_630 a_631 a_916 a_10 a_632) rfl rfl rfl hv_M_layJump ⟨Nat.le_of_ble_eq_true rfl, Nat.le_of_ble_eq_true rfl⟩) hP hD hS hA hZ hK hB [0, 1] rfl (by decide) (fun _ => rfl) rfl rfl rfl hl.1 rfl (Nat.le_of_ble_eq_true rfl) d_M_layShort_267 ⟨Nat.zero_le _, Nat.zero_le _⟩ (fun H locs hP hD hS => ?_)
  have hP : va_P D vwCl [(b_x, .inr (9, [.ref b_row, .ref b_part, .ref b_mem, .ref b_mrk, .ref b_sf, .ref b_ss, .ref b_sr, .int m_on, .ref b_h, .int m_hc, .ref b_r, .int m_pc, .ref b_in, .int m_giv, .int m_tak, .ref b_out, .int m_put, .int m_st, .int m_cu, .int m_va, .int m_sp, .int m_un, .ref b_k, .int m_kc, .int m_kn, .int m_by, .int m_kd, .int m_tg, .int m_ju])), (b_row, .inl (tc 0, 2400, .inl q_267))] H := hP
  have hD : va_D A [(b_x, .inr (9, [.ref b_row, .ref b_part, .ref b_mem, .ref b_mrk, .ref b_sf, .ref b_ss, .ref b_sr, .int m_on, .ref b_h, .int m_hc, .ref b_r, .int m_pc, .ref b_in, .int m_giv, .int m_tak, .ref b_out, .int m_put, .int m_st, .int m_cu, .int m_va, .int m_sp, .int m_un, .ref b_k, .int m_kc, .int m_kn, .int m_by, .int m_kd, .int m_tg, .int m_ju])), (b_row, .inl (tc 0, 2400, .inl q_267))] := hD
  refine lv_aload_n hx hb d_M_layShort_270 rfl (lv_at hl 1 rfl) ?_
  refine lv_bipush (v := 64) hx hb d_M_layShort_271 (by decide) ?_
  refine lv_iconst (v := 5) hx hb d_M_layShort_273 (by decide) ?_
  obtain ⟨q_274, e_274⟩ : ∃ z, z = (mF_StepMachineModel_layJump q_267 64 5) := ⟨_, rfl⟩
  refine wVv (As := [.int 64, .int 5]) (rest := []) e_274 ⟨hx, hb, hml, hown, hts⟩ (mc_StepMachineModel_layJump l D tc tb z0 _ b_x b_row b_part b_mem b_mrk b_sf b_ss b_sr b_h b_r b_in b_out b_k m_on m_hc m_pc m_giv m_tak m_put m_st m_cu m_va m_sp m_un m_kc m_kn m_by m_kd m_tg m_ju q_267 64 5 (by decide)) (cwV 2 hts (goodV a_630 a_631 a_916 a_10 a_632) rfl rfl rfl hv_M_layJump ⟨Nat.le_of_ble_eq_true rfl, Nat.le_of_ble_eq_true rfl⟩) hP hD hS hA hZ hK hB [0, 1] rfl (by decide) (fun _ => rfl) rfl rfl rfl hl.1 rfl (Nat.le_of_ble_eq_true rfl) d_M_layShort_274 ⟨Nat.zero_le _, Nat.zero_le _⟩ (fun H locs hP hD hS => ?_)
  have hP : va_P D vwCl [(b_x, .inr (9, [.ref b_row, .ref b_part, .ref b_mem, .ref b_mrk, .ref b_sf, .ref b_ss, .ref b_sr, .int m_on, .ref b_h, .int m_hc, .ref b_r, .int m_pc, .ref b_in, .int m_giv, .int m_tak, .ref b_out, .int m_put, .int m_st, .int m_cu, .int m_va, .int m_sp, .int m_un, .ref b_k, .int m_kc, .int m_kn, .int m_by, .int m_kd, .int m_tg, .int m_ju])), (b_row, .inl (tc 0, 2400, .inl q_274))] H := hP
  have hD : va_D A [(b_x, .inr (9, [.ref b_row, .ref b_part, .ref b_mem, .ref b_mrk, .ref b_sf, .ref b_ss, .ref b_sr, .int m_on, .ref b_h, .int m_hc, .ref b_r, .int m_pc, .ref b_in, .int m_giv, .int m_tak, .ref b_out, .int m_put, .int m_st, .int m_cu, .int m_va, .int m_sp, .int m_un, .ref b_k, .int m_kc, .int m_kn, .int m_by, .int m_kd, .int m_tg, .int m_ju])), (b_row, .inl (tc 0, 2400, .inl q_274))] := hD
  refine lv_aload_n hx hb d_M_layShort_277 rfl (lv_at hl 1 rfl) ?_
  refine lv_bipush (v := 55) hx hb d_M_layShort_278 (by decide) ?_
  refine lv_iconst (v := 3) hx hb d_M_layShort_280 (by decide) ?_
  refine lv_iconst (v := 1) hx hb d_M_layShort_281 (by decide) ?_
  obtain ⟨q_282, e_282⟩ : ∃ z, z = (mF_StepMachineModel_ends q_274 55 3 1) := ⟨_, rfl⟩
  refine wVv (As := [.int 55, .int 3, .int 1]) (rest := []) e_282 ⟨hx, hb, hml, hown, hts⟩ (mc_StepMachineModel_ends l D tc tb z0 _ b_x b_row b_part b_mem b_mrk b_sf b_ss b_sr b_h b_r b_in b_out b_k m_on m_hc m_pc m_giv m_tak m_put m_st m_cu m_va m_sp m_un m_kc m_kn m_by m_kd m_tg m_ju q_274 55 3 1 (by decide)) (cwV 3 hts (goodV a_624 a_625 a_914 a_10 a_626) rfl rfl rfl hv_M_ends ⟨Nat.le_of_ble_eq_true rfl, Nat.le_of_ble_eq_true rfl⟩) hP hD hS hA hZ hK hB [0, 1] rfl (by decide) (fun _ => rfl) rfl rfl rfl hl.1 rfl (Nat.le_of_ble_eq_true rfl) d_M_layShort_282 ⟨Nat.zero_le _, Nat.zero_le _⟩ (fun H locs hP hD hS => ?_)
  have hP : va_P D vwCl [(b_x, .inr (9, [.ref b_row, .ref b_part, .ref b_mem, .ref b_mrk, .ref b_sf, .ref b_ss, .ref b_sr, .int m_on, .ref b_h, .int m_hc, .ref b_r, .int m_pc, .ref b_in, .int m_giv, .int m_tak, .ref b_out, .int m_put, .int m_st, .int m_cu, .int m_va, .int m_sp, .int m_un, .ref b_k, .int m_kc, .int m_kn, .int m_by, .int m_kd, .int m_tg, .int m_ju])), (b_row, .inl (tc 0, 2400, .inl q_282))] H := hP
  have hD : va_D A [(b_x, .inr (9, [.ref b_row, .ref b_part, .ref b_mem, .ref b_mrk, .ref b_sf, .ref b_ss, .ref b_sr, .int m_on, .ref b_h, .int m_hc, .ref b_r, .int m_pc, .ref b_in, .int m_giv, .int m_tak, .ref b_out, .int m_put, .int m_st, .int m_cu, .int m_va, .int m_sp, .int m_un, .ref b_k, .int m_kc, .int m_kn, .int m_by, .int m_kd, .int m_tg, .int m_ju])), (b_row, .inl (tc 0, 2400, .inl q_282))] := hD
  refine lv_aload_n hx hb d_M_layShort_285 rfl (lv_at hl 1 rfl) ?_
  refine lv_bipush (v := 55) hx hb d_M_layShort_286 (by decide) ?_
  refine lv_bipush (v := 12) hx hb d_M_layShort_288 (by decide) ?_
  refine lv_bipush (v := 9) hx hb d_M_layShort_290 (by decide) ?_
  obtain ⟨q_292, e_292⟩ : ∃ z, z = (mF_StepMachineModel_one q_282 55 12 9) := ⟨_, rfl⟩
  refine wVv (As := [.int 55, .int 12, .int 9]) (rest := []) e_292 ⟨hx, hb, hml, hown, hts⟩ (mc_StepMachineModel_one l D tc tb z0 _ b_x b_row b_part b_mem b_mrk b_sf b_ss b_sr b_h b_r b_in b_out b_k m_on m_hc m_pc m_giv m_tak m_put m_st m_cu m_va m_sp m_un m_kc m_kn m_by m_kd m_tg m_ju q_282 55 12 9 (by decide) (by decide)) (cwV 3 hts (goodV a_627 a_628 a_915 a_10 a_629) rfl rfl rfl hv_M_one ⟨Nat.le_of_ble_eq_true rfl, Nat.le_of_ble_eq_true rfl⟩) hP hD hS hA hZ hK hB [0, 1] rfl (by decide) (fun _ => rfl) rfl rfl rfl hl.1 rfl (Nat.le_of_ble_eq_true rfl) d_M_layShort_292 ⟨Nat.zero_le _, Nat.zero_le _⟩ (fun H locs hP hD hS => ?_)
  have hP : va_P D vwCl [(b_x, .inr (9, [.ref b_row, .ref b_part, .ref b_mem, .ref b_mrk, .ref b_sf, .ref b_ss, .ref b_sr, .int m_on, .ref b_h, .int m_hc, .ref b_r, .int m_pc, .ref b_in, .int m_giv, .int m_tak, .ref b_out, .int m_put, .int m_st, .int m_cu, .int m_va, .int m_sp, .int m_un, .ref b_k, .int m_kc, .int m_kn, .int m_by, .int m_kd, .int m_tg, .int m_ju])), (b_row, .inl (tc 0, 2400, .inl q_292))] H := hP
  have hD : va_D A [(b_x, .inr (9, [.ref b_row, .ref b_part, .ref b_mem, .ref b_mrk, .ref b_sf, .ref b_ss, .ref b_sr, .int m_on, .ref b_h, .int m_hc, .ref b_r, .int m_pc, .ref b_in, .int m_giv, .int m_tak, .ref b_out, .int m_put, .int m_st, .int m_cu, .int m_va, .int m_sp, .int m_un, .ref b_k, .int m_kc, .int m_kn, .int m_by, .int m_kd, .int m_tg, .int m_ju])), (b_row, .inl (tc 0, 2400, .inl q_292))] := hD
  refine lv_aload_n hx hb d_M_layShort_295 rfl (lv_at hl 1 rfl) ?_
  refine lv_bipush (v := 55) hx hb d_M_layShort_296 (by decide) ?_
  refine lv_bipush (v := 7) hx hb d_M_layShort_298 (by decide) ?_
  refine lv_iconst (v := 5) hx hb d_M_layShort_300 (by decide) ?_
  refine lv_iconst (v := 2) hx hb d_M_layShort_301 (by decide) ?_
  obtain ⟨q_302, e_302⟩ : ∃ z, z = (mF_StepMachineModel_fix q_292 55 7 5 2) := ⟨_, rfl⟩
  refine wVv (As := [.int 55, .int 7, .int 5, .int 2]) (rest := []) e_302 ⟨hx, hb, hml, hown, hts⟩ (mc_StepMachineModel_fix l D tc tb z0 _ b_x b_row b_part b_mem b_mrk b_sf b_ss b_sr b_h b_r b_in b_out b_k m_on m_hc m_pc m_giv m_tak m_put m_st m_cu m_va m_sp m_un m_kc m_kn m_by m_kd m_tg m_ju q_292 55 7 5 2 (by decide) (by decide) (by decide)) (cwV 4 hts (goodV a_597 a_598 a_911 a_10 a_599) rfl rfl rfl hv_M_fix ⟨Nat.le_of_ble_eq_true rfl, Nat.le_of_ble_eq_true rfl⟩) hP hD hS hA hZ hK hB [0, 1] rfl (by decide) (fun _ => rfl) rfl rfl rfl hl.1 rfl (Nat.le_of_ble_eq_true rfl) d_M_layShort_302 ⟨Nat.zero_le _, Nat.zero_le _⟩ (fun H locs hP hD hS => ?_)
  have hP : va_P D vwCl [(b_x, .inr (9, [.ref b_row, .ref b_part, .ref b_mem, .ref b_mrk, .ref b_sf, .ref b_ss, .ref b_sr, .int m_on, .ref b_h, .int m_hc, .ref b_r, .int m_pc, .ref b_in, .int m_giv, .int m_tak, .ref b_out, .int m_put, .int m_st, .int m_cu, .int m_va, .int m_sp, .int m_un, .ref b_k, .int m_kc, .int m_kn, .int m_by, .int m_kd, .int m_tg, .int m_ju])), (b_row, .inl (tc 0, 2400, .inl q_302))] H := hP
  have hD : va_D A [(b_x, .inr (9, [.ref b_row, .ref b_part, .ref b_mem, .ref b_mrk, .ref b_sf, .ref b_ss, .ref b_sr, .int m_on, .ref b_h, .int m_hc, .ref b_r, .int m_pc, .ref b_in, .int m_giv, .int m_tak, .ref b_out, .int m_put, .int m_st, .int m_cu, .int m_va, .int m_sp, .int m_un, .ref b_k, .int m_kc, .int m_kn, .int m_by, .int m_kd, .int m_tg, .int m_ju])), (b_row, .inl (tc 0, 2400, .inl q_302))] := hD
  refine lv_aload_n hx hb d_M_layShort_305 rfl (lv_at hl 1 rfl) ?_
  refine lv_bipush (v := 55) hx hb d_M_layShort_306 (by decide) ?_
  refine lv_bipush (v := 6) hx hb d_M_layShort_308 (by decide) ?_
  refine lv_iconst (v := 4) hx hb d_M_layShort_310 (by decide) ?_
  obtain ⟨q_311, e_311⟩ : ∃ z, z = (mF_StepMachineModel_one q_302 55 6 4) := ⟨_, rfl⟩
  refine wVv (As := [.int 55, .int 6, .int 4]) (rest := []) e_311 ⟨hx, hb, hml, hown, hts⟩ (mc_StepMachineModel_one l D tc tb z0 _ b_x b_row b_part b_mem b_mrk b_sf b_ss b_sr b_h b_r b_in b_out b_k m_on m_hc m_pc m_giv m_tak m_put m_st m_cu m_va m_sp m_un m_kc m_kn m_by m_kd m_tg m_ju q_302 55 6 4 (by decide) (by decide)) (cwV 3 hts (goodV a_627 a_628 a_915 a_10 a_629) rfl rfl rfl hv_M_one ⟨Nat.le_of_ble_eq_true rfl, Nat.le_of_ble_eq_true rfl⟩) hP hD hS hA hZ hK hB [0, 1] rfl (by decide) (fun _ => rfl) rfl rfl rfl hl.1 rfl (Nat.le_of_ble_eq_true rfl) d_M_layShort_311 ⟨Nat.zero_le _, Nat.zero_le _⟩ (fun H locs hP hD hS => ?_)
  have hP : va_P D vwCl [(b_x, .inr (9, [.ref b_row, .ref b_part, .ref b_mem, .ref b_mrk, .ref b_sf, .ref b_ss, .ref b_sr, .int m_on, .ref b_h, .int m_hc, .ref b_r, .int m_pc, .ref b_in, .int m_giv, .int m_tak, .ref b_out, .int m_put, .int m_st, .int m_cu, .int m_va, .int m_sp, .int m_un, .ref b_k, .int m_kc, .int m_kn, .int m_by, .int m_kd, .int m_tg, .int m_ju])), (b_row, .inl (tc 0, 2400, .inl q_311))] H := hP
  have hD : va_D A [(b_x, .inr (9, [.ref b_row, .ref b_part, .ref b_mem, .ref b_mrk, .ref b_sf, .ref b_ss, .ref b_sr, .int m_on, .ref b_h, .int m_hc, .ref b_r, .int m_pc, .ref b_in, .int m_giv, .int m_tak, .ref b_out, .int m_put, .int m_st, .int m_cu, .int m_va, .int m_sp, .int m_un, .ref b_k, .int m_kc, .int m_kn, .int m_by, .int m_kd, .int m_tg, .int m_ju])), (b_row, .inl (tc 0, 2400, .inl q_311))] := hD
  refine lv_aload_n hx hb d_M_layShort_314 rfl (lv_at hl 1 rfl) ?_
  refine lv_bipush (v := 55) hx hb d_M_layShort_315 (by decide) ?_
  refine lv_iconst (v := 5) hx hb d_M_layShort_317 (by decide) ?_
  refine lv_bipush (v := 6) hx hb d_M_layShort_318 (by decide) ?_
  obtain ⟨q_320, e_320⟩ : ∃ z, z = (mF_StepMachineModel_one q_311 55 5 6) := ⟨_, rfl⟩
  refine wVv (As := [.int 55, .int 5, .int 6]) (rest := []) e_320 ⟨hx, hb, hml, hown, hts⟩ (mc_StepMachineModel_one l D tc tb z0 _ b_x b_row b_part b_mem b_mrk b_sf b_ss b_sr b_h b_r b_in b_out b_k m_on m_hc m_pc m_giv m_tak m_put m_st m_cu m_va m_sp m_un m_kc m_kn m_by m_kd m_tg m_ju q_311 55 5 6 (by decide) (by decide)) (cwV 3 hts (goodV a_627 a_628 a_915 a_10 a_629) rfl rfl rfl hv_M_one ⟨Nat.le_of_ble_eq_true rfl, Nat.le_of_ble_eq_true rfl⟩) hP hD hS hA hZ hK hB [0, 1] rfl (by decide) (fun _ => rfl) rfl rfl rfl hl.1 rfl (Nat.le_of_ble_eq_true rfl) d_M_layShort_320 ⟨Nat.zero_le _, Nat.zero_le _⟩ (fun H locs hP hD hS => ?_)
  have hP : va_P D vwCl [(b_x, .inr (9, [.ref b_row, .ref b_part, .ref b_mem, .ref b_mrk, .ref b_sf, .ref b_ss, .ref b_sr, .int m_on, .ref b_h, .int m_hc, .ref b_r, .int m_pc, .ref b_in, .int m_giv, .int m_tak, .ref b_out, .int m_put, .int m_st, .int m_cu, .int m_va, .int m_sp, .int m_un, .ref b_k, .int m_kc, .int m_kn, .int m_by, .int m_kd, .int m_tg, .int m_ju])), (b_row, .inl (tc 0, 2400, .inl q_320))] H := hP
  have hD : va_D A [(b_x, .inr (9, [.ref b_row, .ref b_part, .ref b_mem, .ref b_mrk, .ref b_sf, .ref b_ss, .ref b_sr, .int m_on, .ref b_h, .int m_hc, .ref b_r, .int m_pc, .ref b_in, .int m_giv, .int m_tak, .ref b_out, .int m_put, .int m_st, .int m_cu, .int m_va, .int m_sp, .int m_un, .ref b_k, .int m_kc, .int m_kn, .int m_by, .int m_kd, .int m_tg, .int m_ju])), (b_row, .inl (tc 0, 2400, .inl q_320))] := hD
  refine lv_aload_n hx hb d_M_layShort_323 rfl (lv_at hl 1 rfl) ?_
  refine lv_bipush (v := 55) hx hb d_M_layShort_324 (by decide) ?_
  refine lv_iconst (v := 4) hx hb d_M_layShort_326 (by decide) ?_
  refine lv_iconst (v := 3) hx hb d_M_layShort_327 (by decide) ?_
  refine lv_sipush (v := 400) hx hb d_M_layShort_328 (by decide) ?_
  refine lv_bipush (v := 8) hx hb d_M_layShort_331 (by decide) ?_
  obtain ⟨q_333, e_333⟩ : ∃ z, z = (mF_StepMachineModel_lay q_320 55 4 3 400 8) := ⟨_, rfl⟩
  refine wVv (As := [.int 55, .int 4, .int 3, .int 400, .int 8]) (rest := []) e_333 ⟨hx, hb, hml, hown, hts⟩ (mc_StepMachineModel_lay l D tc tb z0 _ b_x b_row b_part b_mem b_mrk b_sf b_ss b_sr b_h b_r b_in b_out b_k m_on m_hc m_pc m_giv m_tak m_put m_st m_cu m_va m_sp m_un m_kc m_kn m_by m_kd m_tg m_ju q_320 55 4 3 400 8 (by decide) (by decide) (by decide)) (cwV 5 hts (goodV a_603 a_604 a_912 a_10 a_605) rfl rfl rfl hv_M_lay ⟨Nat.le_of_ble_eq_true rfl, Nat.le_of_ble_eq_true rfl⟩) hP hD hS hA hZ hK hB [0, 1] rfl (by decide) (fun _ => rfl) rfl rfl rfl hl.1 rfl (Nat.le_of_ble_eq_true rfl) d_M_layShort_333 ⟨Nat.zero_le _, Nat.zero_le _⟩ (fun H locs hP hD hS => ?_)
  have hP : va_P D vwCl [(b_x, .inr (9, [.ref b_row, .ref b_part, .ref b_mem, .ref b_mrk, .ref b_sf, .ref b_ss, .ref b_sr, .int m_on, .ref b_h, .int m_hc, .ref b_r, .int m_pc, .ref b_in, .int m_giv, .int m_tak, .ref b_out, .int m_put, .int m_st, .int m_cu, .int m_va, .int m_sp, .int m_un, .ref b_k, .int m_kc, .int m_kn, .int m_by, .int m_kd, .int m_tg, .int m_ju])), (b_row, .inl (tc 0, 2400, .inl q_333))] H := hP
  have hD : va_D A [(b_x, .inr (9, [.ref b_row, .ref b_part, .ref b_mem, .ref b_mrk, .ref b_sf, .ref b_ss, .ref b_sr, .int m_on, .ref b_h, .int m_hc, .ref b_r, .int m_pc, .ref b_in, .int m_giv, .int m_tak, .ref b_out, .int m_put, .int m_st, .int m_cu, .int m_va, .int m_sp, .int m_un, .ref b_k, .int m_kc, .int m_kn, .int m_by, .int m_kd, .int m_tg, .int m_ju])), (b_row, .inl (tc 0, 2400, .inl q_333))] := hD
  refine lv_aload_n hx hb d_M_layShort_336 rfl (lv_at hl 1 rfl) ?_
  refine lv_bipush (v := 55) hx hb d_M_layShort_337 (by decide) ?_
  refine lv_iconst (v := 2) hx hb d_M_layShort_339 (by decide) ?_
  refine lv_iconst (v := 5) hx hb d_M_layShort_340 (by decide) ?_
  obtain ⟨q_341, e_341⟩ : ∃ z, z = (mF_StepMachineModel_one q_333 55 2 5) := ⟨_, rfl⟩
  refine wVv (As := [.int 55, .int 2, .int 5]) (rest := []) e_341 ⟨hx, hb, hml, hown, hts⟩ (mc_StepMachineModel_one l D tc tb z0 _ b_x b_row b_part b_mem b_mrk b_sf b_ss b_sr b_h b_r b_in b_out b_k m_on m_hc m_pc m_giv m_tak m_put m_st m_cu m_va m_sp m_un m_kc m_kn m_by m_kd m_tg m_ju q_333 55 2 5 (by decide) (by decide)) (cwV 3 hts (goodV a_627 a_628 a_915 a_10 a_629) rfl rfl rfl hv_M_one ⟨Nat.le_of_ble_eq_true rfl, Nat.le_of_ble_eq_true rfl⟩) hP hD hS hA hZ hK hB [0, 1] rfl (by decide) (fun _ => rfl) rfl rfl rfl hl.1 rfl (Nat.le_of_ble_eq_true rfl) d_M_layShort_341 ⟨Nat.zero_le _, Nat.zero_le _⟩ (fun H locs hP hD hS => ?_)
  have hP : va_P D vwCl [(b_x, .inr (9, [.ref b_row, .ref b_part, .ref b_mem, .ref b_mrk, .ref b_sf, .ref b_ss, .ref b_sr, .int m_on, .ref b_h, .int m_hc, .ref b_r, .int m_pc, .ref b_in, .int m_giv, .int m_tak, .ref b_out, .int m_put, .int m_st, .int m_cu, .int m_va, .int m_sp, .int m_un, .ref b_k, .int m_kc, .int m_kn, .int m_by, .int m_kd, .int m_tg, .int m_ju])), (b_row, .inl (tc 0, 2400, .inl q_341))] H := hP
  have hD : va_D A [(b_x, .inr (9, [.ref b_row, .ref b_part, .ref b_mem, .ref b_mrk, .ref b_sf, .ref b_ss, .ref b_sr, .int m_on, .ref b_h, .int m_hc, .ref b_r, .int m_pc, .ref b_in, .int m_giv, .int m_tak, .ref b_out, .int m_put, .int m_st, .int m_cu, .int m_va, .int m_sp, .int m_un, .ref b_k, .int m_kc, .int m_kn, .int m_by, .int m_kd, .int m_tg, .int m_ju])), (b_row, .inl (tc 0, 2400, .inl q_341))] := hD
  refine lv_bipush (v := 57) hx hb d_M_layShort_344 (by decide) ?_
  refine lv_istore_n (lv' := [(1, .int 57), (0, .ref b_x)]) hx hb d_M_layShort_346 rfl hl (by decide) rfl (fun ls hl => ?_)
  have loop_347 : ∀ (n_347 : Nat) (k_347 : Int32) (m_rowL : Nat → Int32) (H : Heap) (locs : List Loc) (ls : Array Slot), (0 ≤ k_347.toInt) → ((60 : Int32).toInt - k_347.toInt).toNat < n_347 → (∀ (H : Heap) (locs : List Loc) (ls : Array Slot), (0 ≤ (mF_StepMachineModel_layShort_L347 n_347 k_347 m_rowL).1.toInt) → va_P D vwCl [(b_x, .inr (9, [.ref b_row, .ref b_part, .ref b_mem, .ref b_mrk, .ref b_sf, .ref b_ss, .ref b_sr, .int m_on, .ref b_h, .int m_hc, .ref b_r, .int m_pc, .ref b_in, .int m_giv, .int m_tak, .ref b_out, .int m_put, .int m_st, .int m_cu, .int m_va, .int m_sp, .int m_un, .ref b_k, .int m_kc, .int m_kn, .int m_by, .int m_kd, .int m_tg, .int m_ju])), (b_row, .inl (tc 0, 2400, .inl ((mF_StepMachineModel_layShort_L347 n_347 k_347 m_rowL).2)))] H → va_D A [(b_x, .inr (9, [.ref b_row, .ref b_part, .ref b_mem, .ref b_mrk, .ref b_sf, .ref b_ss, .ref b_sr, .int m_on, .ref b_h, .int m_hc, .ref b_r, .int m_pc, .ref b_in, .int m_giv, .int m_tak, .ref b_out, .int m_put, .int m_st, .int m_cu, .int m_va, .int m_sp, .int m_un, .ref b_k, .int m_kc, .int m_kn, .int m_by, .int m_kd, .int m_tg, .int m_ju])), (b_row, .inl (tc 0, 2400, .inl ((mF_StepMachineModel_layShort_L347 n_347 k_347 m_rowL).2)))] → va_S A s.heap H locs → lv_has ls 2 [(1, .int ((mF_StepMachineModel_layShort_L347 n_347 k_347 m_rowL).1)), (0, .ref b_x)] → W p l e (headSpec (wM y_M_layShort b_M_layShort 2 none) ({ frames := 3, cells := 0, slots := 0, locals := 70 })).room s m ([.ref b_x]).toArray below meth c H locs 0 0 (MQ below (va_Qv (fun u : (Nat → Int32) => u = (mF_StepMachineModel_layShort m_row)) (Bw D tc A (fun u => [(b_x, .inr (9, [.ref b_row, .ref b_part, .ref b_mem, .ref b_mrk, .ref b_sf, .ref b_ss, .ref b_sr, .int m_on, .ref b_h, .int m_hc, .ref b_r, .int m_pc, .ref b_in, .int m_giv, .int m_tak, .ref b_out, .int m_put, .int m_st, .int m_cu, .int m_va, .int m_sp, .int m_un, .ref b_k, .int m_kc, .int m_kn, .int m_by, .int m_kd, .int m_tg, .int m_ju])), (b_row, .inl (tc 0, 2400, .inl u))])) A) ([.ref b_x]).toArray s 0 0 A) (F0 m 417 ls [])) → va_P D vwCl [(b_x, .inr (9, [.ref b_row, .ref b_part, .ref b_mem, .ref b_mrk, .ref b_sf, .ref b_ss, .ref b_sr, .int m_on, .ref b_h, .int m_hc, .ref b_r, .int m_pc, .ref b_in, .int m_giv, .int m_tak, .ref b_out, .int m_put, .int m_st, .int m_cu, .int m_va, .int m_sp, .int m_un, .ref b_k, .int m_kc, .int m_kn, .int m_by, .int m_kd, .int m_tg, .int m_ju])), (b_row, .inl (tc 0, 2400, .inl m_rowL))] H → va_D A [(b_x, .inr (9, [.ref b_row, .ref b_part, .ref b_mem, .ref b_mrk, .ref b_sf, .ref b_ss, .ref b_sr, .int m_on, .ref b_h, .int m_hc, .ref b_r, .int m_pc, .ref b_in, .int m_giv, .int m_tak, .ref b_out, .int m_put, .int m_st, .int m_cu, .int m_va, .int m_sp, .int m_un, .ref b_k, .int m_kc, .int m_kn, .int m_by, .int m_kd, .int m_tg, .int m_ju])), (b_row, .inl (tc 0, 2400, .inl m_rowL))] → va_S A s.heap H locs → lv_has ls 2 [(1, .int k_347), (0, .ref b_x)] → W p l e (headSpec (wM y_M_layShort b_M_layShort 2 none) ({ frames := 3, cells := 0, slots := 0, locals := 70 })).room s m ([.ref b_x]).toArray below meth c H locs 0 0 (MQ below (va_Qv (fun u : (Nat → Int32) => u = (mF_StepMachineModel_layShort m_row)) (Bw D tc A (fun u => [(b_x, .inr (9, [.ref b_row, .ref b_part, .ref b_mem, .ref b_mrk, .ref b_sf, .ref b_ss, .ref b_sr, .int m_on, .ref b_h, .int m_hc, .ref b_r, .int m_pc, .ref b_in, .int m_giv, .int m_tak, .ref b_out, .int m_put, .int m_st, .int m_cu, .int m_va, .int m_sp, .int m_un, .ref b_k, .int m_kc, .int m_kn, .int m_by, .int m_kd, .int m_tg, .int m_ju])), (b_row, .inl (tc 0, 2400, .inl u))])) A) ([.ref b_x]).toArray s 0 0 A) (F0 m 347 ls []) := by
    intro n_347
    induction n_347 with
    | zero =>
      intro k_347 m_rowL H locs ls hq hm
      exact absurd hm (Nat.not_lt_zero _)
    | succ n_347 ih_347 =>
      intro k_347 m_rowL H locs ls hq hm_347 hX_347 hP hD hS hl
      refine lv_iload_n hx hb d_M_layShort_347 rfl (lv_at hl 0 rfl) ?_
      refine lv_bipush (v := 60) hx hb d_M_layShort_348 (by decide) ?_
      refine lv_icmp_ge (tgt := 417) hx hb d_M_layShort_350 (by decide) (fun c_350 => ?_) (fun c_350 => ?_)
      · skip
        rw [mF_StepMachineModel_layShort_L347, if_pos c_350] at hX_347
        exact hX_347 _ _ ls hq hP hD hS (lv_sub hl [0, 1] rfl)
      · skip
        refine lv_aload_n hx hb d_M_layShort_353 rfl (lv_at hl 1 rfl) ?_
        refine lv_iload_n hx hb d_M_layShort_354 rfl (lv_at hl 0 rfl) ?_
        refine lv_iconst (v := 4) hx hb d_M_layShort_355 (by decide) ?_
        refine lv_iconst (v := 1) hx hb d_M_layShort_356 (by decide) ?_
        obtain ⟨q_357, e_357⟩ : ∃ z, z = (mF_StepMachineModel_ends m_rowL k_347 4 1) := ⟨_, rfl⟩
        refine wVv (As := [.int k_347, .int 4, .int 1]) (rest := []) e_357 ⟨hx, hb, hml, hown, hts⟩ (mc_StepMachineModel_ends l D tc tb z0 _ b_x b_row b_part b_mem b_mrk b_sf b_ss b_sr b_h b_r b_in b_out b_k m_on m_hc m_pc m_giv m_tak m_put m_st m_cu m_va m_sp m_un m_kc m_kn m_by m_kd m_tg m_ju m_rowL k_347 4 1 (k75 hq c_350 (by decide))) (cwV 3 hts (goodV a_624 a_625 a_914 a_10 a_626) rfl rfl rfl hv_M_ends ⟨Nat.le_of_ble_eq_true rfl, Nat.le_of_ble_eq_true rfl⟩) hP hD hS hA hZ hK hB [0, 1] rfl (by decide) (fun _ => rfl) rfl rfl rfl hl.1 rfl (Nat.le_of_ble_eq_true rfl) d_M_layShort_357 ⟨Nat.zero_le _, Nat.zero_le _⟩ (fun H locs hP hD hS => ?_)
        have hP : va_P D vwCl [(b_x, .inr (9, [.ref b_row, .ref b_part, .ref b_mem, .ref b_mrk, .ref b_sf, .ref b_ss, .ref b_sr, .int m_on, .ref b_h, .int m_hc, .ref b_r, .int m_pc, .ref b_in, .int m_giv, .int m_tak, .ref b_out, .int m_put, .int m_st, .int m_cu, .int m_va, .int m_sp, .int m_un, .ref b_k, .int m_kc, .int m_kn, .int m_by, .int m_kd, .int m_tg, .int m_ju])), (b_row, .inl (tc 0, 2400, .inl q_357))] H := hP
        have hD : va_D A [(b_x, .inr (9, [.ref b_row, .ref b_part, .ref b_mem, .ref b_mrk, .ref b_sf, .ref b_ss, .ref b_sr, .int m_on, .ref b_h, .int m_hc, .ref b_r, .int m_pc, .ref b_in, .int m_giv, .int m_tak, .ref b_out, .int m_put, .int m_st, .int m_cu, .int m_va, .int m_sp, .int m_un, .ref b_k, .int m_kc, .int m_kn, .int m_by, .int m_kd, .int m_tg, .int m_ju])), (b_row, .inl (tc 0, 2400, .inl q_357))] := hD
        refine lv_aload_n hx hb d_M_layShort_360 rfl (lv_at hl 1 rfl) ?_
        refine lv_iload_n hx hb d_M_layShort_361 rfl (lv_at hl 0 rfl) ?_
        refine lv_bipush (v := 10) hx hb d_M_layShort_362 (by decide) ?_
        refine lv_iconst (v := 3) hx hb d_M_layShort_364 (by decide) ?_
        refine lv_iload_n hx hb d_M_layShort_365 rfl (lv_at hl 0 rfl) ?_
        refine lv_bipush (v := 57) hx hb d_M_layShort_366 (by decide) ?_
        refine lv_isub hx hb d_M_layShort_368 ?_
        obtain ⟨q_369, e_369⟩ : ∃ z, z = (mF_StepMachineModel_fix q_357 k_347 10 3 (k_347 - 57)) := ⟨_, rfl⟩
        refine wVv (As := [.int k_347, .int 10, .int 3, .int (k_347 - 57)]) (rest := []) e_369 ⟨hx, hb, hml, hown, hts⟩ (mc_StepMachineModel_fix l D tc tb z0 _ b_x b_row b_part b_mem b_mrk b_sf b_ss b_sr b_h b_r b_in b_out b_k m_on m_hc m_pc m_giv m_tak m_put m_st m_cu m_va m_sp m_un m_kc m_kn m_by m_kd m_tg m_ju q_357 k_347 10 3 (k_347 - 57) (k75 hq c_350 (by decide)) (by decide) (by decide)) (cwV 4 hts (goodV a_597 a_598 a_911 a_10 a_599) rfl rfl rfl hv_M_fix ⟨Nat.le_of_ble_eq_true rfl, Nat.le_of_ble_eq_true rfl⟩) hP hD hS hA hZ hK hB [0, 1] rfl (by decide) (fun _ => rfl) rfl rfl rfl hl.1 rfl (Nat.le_of_ble_eq_true rfl) d_M_layShort_369 ⟨Nat.zero_le _, Nat.zero_le _⟩ (fun H locs hP hD hS => ?_)
        have hP : va_P D vwCl [(b_x, .inr (9, [.ref b_row, .ref b_part, .ref b_mem, .ref b_mrk, .ref b_sf, .ref b_ss, .ref b_sr, .int m_on, .ref b_h, .int m_hc, .ref b_r, .int m_pc, .ref b_in, .int m_giv, .int m_tak, .ref b_out, .int m_put, .int m_st, .int m_cu, .int m_va, .int m_sp, .int m_un, .ref b_k, .int m_kc, .int m_kn, .int m_by, .int m_kd, .int m_tg, .int m_ju])), (b_row, .inl (tc 0, 2400, .inl q_369))] H := hP
        have hD : va_D A [(b_x, .inr (9, [.ref b_row, .ref b_part, .ref b_mem, .ref b_mrk, .ref b_sf, .ref b_ss, .ref b_sr, .int m_on, .ref b_h, .int m_hc, .ref b_r, .int m_pc, .ref b_in, .int m_giv, .int m_tak, .ref b_out, .int m_put, .int m_st, .int m_cu, .int m_va, .int m_sp, .int m_un, .ref b_k, .int m_kc, .int m_kn, .int m_by, .int m_kd, .int m_tg, .int m_ju])), (b_row, .inl (tc 0, 2400, .inl q_369))] := hD
        refine lv_iload_n hx hb d_M_layShort_372 rfl (lv_at hl 0 rfl) ?_
        refine lv_bipush (v := 59) hx hb d_M_layShort_373 (by decide) ?_
        refine lv_icmp_ne (tgt := 386) hx hb d_M_layShort_375 (by decide) (fun c_375 => ?_) (fun c_375 => ?_)
        · skip
          refine lv_aload_n hx hb d_M_layShort_386 rfl (lv_at hl 1 rfl) ?_
          refine lv_iload_n hx hb d_M_layShort_387 rfl (lv_at hl 0 rfl) ?_
          refine lv_bipush (v := 9) hx hb d_M_layShort_388 (by decide) ?_
          refine lv_bipush (v := 7) hx hb d_M_layShort_390 (by decide) ?_
          refine lv_sipush (v := 500) hx hb d_M_layShort_392 (by decide) ?_
          refine lv_iconst (v := 2) hx hb d_M_layShort_395 (by decide) ?_
          obtain ⟨q_396, e_396⟩ : ∃ z, z = (mF_StepMachineModel_lay q_369 k_347 9 7 500 2) := ⟨_, rfl⟩
          refine wVv (As := [.int k_347, .int 9, .int 7, .int 500, .int 2]) (rest := []) e_396 ⟨hx, hb, hml, hown, hts⟩ (mc_StepMachineModel_lay l D tc tb z0 _ b_x b_row b_part b_mem b_mrk b_sf b_ss b_sr b_h b_r b_in b_out b_k m_on m_hc m_pc m_giv m_tak m_put m_st m_cu m_va m_sp m_un m_kc m_kn m_by m_kd m_tg m_ju q_369 k_347 9 7 500 2 (k75 hq c_350 (by decide)) (by decide) (by decide)) (cwV 5 hts (goodV a_603 a_604 a_912 a_10 a_605) rfl rfl rfl hv_M_lay ⟨Nat.le_of_ble_eq_true rfl, Nat.le_of_ble_eq_true rfl⟩) hP hD hS hA hZ hK hB [0, 1] rfl (by decide) (fun _ => rfl) rfl rfl rfl hl.1 rfl (Nat.le_of_ble_eq_true rfl) d_M_layShort_396 ⟨Nat.zero_le _, Nat.zero_le _⟩ (fun H locs hP hD hS => ?_)
          have hP : va_P D vwCl [(b_x, .inr (9, [.ref b_row, .ref b_part, .ref b_mem, .ref b_mrk, .ref b_sf, .ref b_ss, .ref b_sr, .int m_on, .ref b_h, .int m_hc, .ref b_r, .int m_pc, .ref b_in, .int m_giv, .int m_tak, .ref b_out, .int m_put, .int m_st, .int m_cu, .int m_va, .int m_sp, .int m_un, .ref b_k, .int m_kc, .int m_kn, .int m_by, .int m_kd, .int m_tg, .int m_ju])), (b_row, .inl (tc 0, 2400, .inl q_396))] H := hP
          have hD : va_D A [(b_x, .inr (9, [.ref b_row, .ref b_part, .ref b_mem, .ref b_mrk, .ref b_sf, .ref b_ss, .ref b_sr, .int m_on, .ref b_h, .int m_hc, .ref b_r, .int m_pc, .ref b_in, .int m_giv, .int m_tak, .ref b_out, .int m_put, .int m_st, .int m_cu, .int m_va, .int m_sp, .int m_un, .ref b_k, .int m_kc, .int m_kn, .int m_by, .int m_kd, .int m_tg, .int m_ju])), (b_row, .inl (tc 0, 2400, .inl q_396))] := hD
          refine lv_aload_n hx hb d_M_layShort_399 rfl (lv_at hl 1 rfl) ?_
          refine lv_iload_n hx hb d_M_layShort_400 rfl (lv_at hl 0 rfl) ?_
          refine lv_bipush (v := 6) hx hb d_M_layShort_401 (by decide) ?_
          refine lv_iconst (v := 2) hx hb d_M_layShort_403 (by decide) ?_
          refine lv_sipush (v := 400) hx hb d_M_layShort_404 (by decide) ?_
          refine lv_iconst (v := 4) hx hb d_M_layShort_407 (by decide) ?_
          obtain ⟨q_408, e_408⟩ : ∃ z, z = (mF_StepMachineModel_lay q_396 k_347 6 2 400 4) := ⟨_, rfl⟩
          refine wVv (As := [.int k_347, .int 6, .int 2, .int 400, .int 4]) (rest := []) e_408 ⟨hx, hb, hml, hown, hts⟩ (mc_StepMachineModel_lay l D tc tb z0 _ b_x b_row b_part b_mem b_mrk b_sf b_ss b_sr b_h b_r b_in b_out b_k m_on m_hc m_pc m_giv m_tak m_put m_st m_cu m_va m_sp m_un m_kc m_kn m_by m_kd m_tg m_ju q_396 k_347 6 2 400 4 (k75 hq c_350 (by decide)) (by decide) (by decide)) (cwV 5 hts (goodV a_603 a_604 a_912 a_10 a_605) rfl rfl rfl hv_M_lay ⟨Nat.le_of_ble_eq_true rfl, Nat.le_of_ble_eq_true rfl⟩) hP hD hS hA hZ hK hB [0, 1] rfl (by decide) (fun _ => rfl) rfl rfl rfl hl.1 rfl (Nat.le_of_ble_eq_true rfl) d_M_layShort_408 ⟨Nat.zero_le _, Nat.zero_le _⟩ (fun H locs hP hD hS => ?_)
          have hP : va_P D vwCl [(b_x, .inr (9, [.ref b_row, .ref b_part, .ref b_mem, .ref b_mrk, .ref b_sf, .ref b_ss, .ref b_sr, .int m_on, .ref b_h, .int m_hc, .ref b_r, .int m_pc, .ref b_in, .int m_giv, .int m_tak, .ref b_out, .int m_put, .int m_st, .int m_cu, .int m_va, .int m_sp, .int m_un, .ref b_k, .int m_kc, .int m_kn, .int m_by, .int m_kd, .int m_tg, .int m_ju])), (b_row, .inl (tc 0, 2400, .inl q_408))] H := hP
          have hD : va_D A [(b_x, .inr (9, [.ref b_row, .ref b_part, .ref b_mem, .ref b_mrk, .ref b_sf, .ref b_ss, .ref b_sr, .int m_on, .ref b_h, .int m_hc, .ref b_r, .int m_pc, .ref b_in, .int m_giv, .int m_tak, .ref b_out, .int m_put, .int m_st, .int m_cu, .int m_va, .int m_sp, .int m_un, .ref b_k, .int m_kc, .int m_kn, .int m_by, .int m_kd, .int m_tg, .int m_ju])), (b_row, .inl (tc 0, 2400, .inl q_408))] := hD
          refine lv_iinc (v := (k_347 + 1)) (lv' := [(1, .int (k_347 + 1)), (0, .ref b_x)]) hx hb d_M_layShort_411 hl (k := 0) rfl rfl (by decide) rfl (fun ls hl => ?_)
          refine lv_goto (tgt := 347) hx hb d_M_layShort_414 (by decide) ?_
          exact ih_347 (k_347 + 1) q_408 _ _ ls (st_nn c_350 hq) (ms_step c_350 hm_347) (by have h := hX_347; rw [mF_StepMachineModel_layShort_L347, if_neg c_350, ← e_357, mF_StepMachineModel_layShort_43, ← e_369, mF_StepMachineModel_layShort_44, if_neg c_375, ← e_396, mF_StepMachineModel_layShort_45, ← e_408, mF_StepMachineModel_layShort_46] at h; exact h) hP hD hS (lv_sub hl [0, 1] rfl)
        · skip
          refine lv_aload_n hx hb d_M_layShort_378 rfl (lv_at hl 1 rfl) ?_
          refine lv_iload_n hx hb d_M_layShort_379 rfl (lv_at hl 0 rfl) ?_
          refine lv_bipush (v := 12) hx hb d_M_layShort_380 (by decide) ?_
          refine lv_iconst (v := 5) hx hb d_M_layShort_382 (by decide) ?_
          obtain ⟨q_383, e_383⟩ : ∃ z, z = (mF_StepMachineModel_one q_369 k_347 12 5) := ⟨_, rfl⟩
          refine wVv (As := [.int k_347, .int 12, .int 5]) (rest := []) e_383 ⟨hx, hb, hml, hown, hts⟩ (mc_StepMachineModel_one l D tc tb z0 _ b_x b_row b_part b_mem b_mrk b_sf b_ss b_sr b_h b_r b_in b_out b_k m_on m_hc m_pc m_giv m_tak m_put m_st m_cu m_va m_sp m_un m_kc m_kn m_by m_kd m_tg m_ju q_369 k_347 12 5 (k75 hq c_350 (by decide)) (by decide)) (cwV 3 hts (goodV a_627 a_628 a_915 a_10 a_629) rfl rfl rfl hv_M_one ⟨Nat.le_of_ble_eq_true rfl, Nat.le_of_ble_eq_true rfl⟩) hP hD hS hA hZ hK hB [0, 1] rfl (by decide) (fun _ => rfl) rfl rfl rfl hl.1 rfl (Nat.le_of_ble_eq_true rfl) d_M_layShort_383 ⟨Nat.zero_le _, Nat.zero_le _⟩ (fun H locs hP hD hS => ?_)
          have hP : va_P D vwCl [(b_x, .inr (9, [.ref b_row, .ref b_part, .ref b_mem, .ref b_mrk, .ref b_sf, .ref b_ss, .ref b_sr, .int m_on, .ref b_h, .int m_hc, .ref b_r, .int m_pc, .ref b_in, .int m_giv, .int m_tak, .ref b_out, .int m_put, .int m_st, .int m_cu, .int m_va, .int m_sp, .int m_un, .ref b_k, .int m_kc, .int m_kn, .int m_by, .int m_kd, .int m_tg, .int m_ju])), (b_row, .inl (tc 0, 2400, .inl q_383))] H := hP
          have hD : va_D A [(b_x, .inr (9, [.ref b_row, .ref b_part, .ref b_mem, .ref b_mrk, .ref b_sf, .ref b_ss, .ref b_sr, .int m_on, .ref b_h, .int m_hc, .ref b_r, .int m_pc, .ref b_in, .int m_giv, .int m_tak, .ref b_out, .int m_put, .int m_st, .int m_cu, .int m_va, .int m_sp, .int m_un, .ref b_k, .int m_kc, .int m_kn, .int m_by, .int m_kd, .int m_tg, .int m_ju])), (b_row, .inl (tc 0, 2400, .inl q_383))] := hD
          refine lv_aload_n hx hb d_M_layShort_386 rfl (lv_at hl 1 rfl) ?_
          refine lv_iload_n hx hb d_M_layShort_387 rfl (lv_at hl 0 rfl) ?_
          refine lv_bipush (v := 9) hx hb d_M_layShort_388 (by decide) ?_
          refine lv_bipush (v := 7) hx hb d_M_layShort_390 (by decide) ?_
          refine lv_sipush (v := 500) hx hb d_M_layShort_392 (by decide) ?_
          refine lv_iconst (v := 2) hx hb d_M_layShort_395 (by decide) ?_
          obtain ⟨q_396, e_396⟩ : ∃ z, z = (mF_StepMachineModel_lay q_383 k_347 9 7 500 2) := ⟨_, rfl⟩
          refine wVv (As := [.int k_347, .int 9, .int 7, .int 500, .int 2]) (rest := []) e_396 ⟨hx, hb, hml, hown, hts⟩ (mc_StepMachineModel_lay l D tc tb z0 _ b_x b_row b_part b_mem b_mrk b_sf b_ss b_sr b_h b_r b_in b_out b_k m_on m_hc m_pc m_giv m_tak m_put m_st m_cu m_va m_sp m_un m_kc m_kn m_by m_kd m_tg m_ju q_383 k_347 9 7 500 2 (k75 hq c_350 (by decide)) (by decide) (by decide)) (cwV 5 hts (goodV a_603 a_604 a_912 a_10 a_605) rfl rfl rfl hv_M_lay ⟨Nat.le_of_ble_eq_true rfl, Nat.le_of_ble_eq_true rfl⟩) hP hD hS hA hZ hK hB [0, 1] rfl (by decide) (fun _ => rfl) rfl rfl rfl hl.1 rfl (Nat.le_of_ble_eq_true rfl) d_M_layShort_396 ⟨Nat.zero_le _, Nat.zero_le _⟩ (fun H locs hP hD hS => ?_)
          have hP : va_P D vwCl [(b_x, .inr (9, [.ref b_row, .ref b_part, .ref b_mem, .ref b_mrk, .ref b_sf, .ref b_ss, .ref b_sr, .int m_on, .ref b_h, .int m_hc, .ref b_r, .int m_pc, .ref b_in, .int m_giv, .int m_tak, .ref b_out, .int m_put, .int m_st, .int m_cu, .int m_va, .int m_sp, .int m_un, .ref b_k, .int m_kc, .int m_kn, .int m_by, .int m_kd, .int m_tg, .int m_ju])), (b_row, .inl (tc 0, 2400, .inl q_396))] H := hP
          have hD : va_D A [(b_x, .inr (9, [.ref b_row, .ref b_part, .ref b_mem, .ref b_mrk, .ref b_sf, .ref b_ss, .ref b_sr, .int m_on, .ref b_h, .int m_hc, .ref b_r, .int m_pc, .ref b_in, .int m_giv, .int m_tak, .ref b_out, .int m_put, .int m_st, .int m_cu, .int m_va, .int m_sp, .int m_un, .ref b_k, .int m_kc, .int m_kn, .int m_by, .int m_kd, .int m_tg, .int m_ju])), (b_row, .inl (tc 0, 2400, .inl q_396))] := hD
          refine lv_aload_n hx hb d_M_layShort_399 rfl (lv_at hl 1 rfl) ?_
          refine lv_iload_n hx hb d_M_layShort_400 rfl (lv_at hl 0 rfl) ?_
          refine lv_bipush (v := 6) hx hb d_M_layShort_401 (by decide) ?_
          refine lv_iconst (v := 2) hx hb d_M_layShort_403 (by decide) ?_
          refine lv_sipush (v := 400) hx hb d_M_layShort_404 (by decide) ?_
          refine lv_iconst (v := 4) hx hb d_M_layShort_407 (by decide) ?_
          obtain ⟨q_408, e_408⟩ : ∃ z, z = (mF_StepMachineModel_lay q_396 k_347 6 2 400 4) := ⟨_, rfl⟩
          refine wVv (As := [.int k_347, .int 6, .int 2, .int 400, .int 4]) (rest := []) e_408 ⟨hx, hb, hml, hown, hts⟩ (mc_StepMachineModel_lay l D tc tb z0 _ b_x b_row b_part b_mem b_mrk b_sf b_ss b_sr b_h b_r b_in b_out b_k m_on m_hc m_pc m_giv m_tak m_put m_st m_cu m_va m_sp m_un m_kc m_kn m_by m_kd m_tg m_ju q_396 k_347 6 2 400 4 (k75 hq c_350 (by decide)) (by decide) (by decide)) (cwV 5 hts (goodV a_603 a_604 a_912 a_10 a_605) rfl rfl rfl hv_M_lay ⟨Nat.le_of_ble_eq_true rfl, Nat.le_of_ble_eq_true rfl⟩) hP hD hS hA hZ hK hB [0, 1] rfl (by decide) (fun _ => rfl) rfl rfl rfl hl.1 rfl (Nat.le_of_ble_eq_true rfl) d_M_layShort_408 ⟨Nat.zero_le _, Nat.zero_le _⟩ (fun H locs hP hD hS => ?_)
          have hP : va_P D vwCl [(b_x, .inr (9, [.ref b_row, .ref b_part, .ref b_mem, .ref b_mrk, .ref b_sf, .ref b_ss, .ref b_sr, .int m_on, .ref b_h, .int m_hc, .ref b_r, .int m_pc, .ref b_in, .int m_giv, .int m_tak, .ref b_out, .int m_put, .int m_st, .int m_cu, .int m_va, .int m_sp, .int m_un, .ref b_k, .int m_kc, .int m_kn, .int m_by, .int m_kd, .int m_tg, .int m_ju])), (b_row, .inl (tc 0, 2400, .inl q_408))] H := hP
          have hD : va_D A [(b_x, .inr (9, [.ref b_row, .ref b_part, .ref b_mem, .ref b_mrk, .ref b_sf, .ref b_ss, .ref b_sr, .int m_on, .ref b_h, .int m_hc, .ref b_r, .int m_pc, .ref b_in, .int m_giv, .int m_tak, .ref b_out, .int m_put, .int m_st, .int m_cu, .int m_va, .int m_sp, .int m_un, .ref b_k, .int m_kc, .int m_kn, .int m_by, .int m_kd, .int m_tg, .int m_ju])), (b_row, .inl (tc 0, 2400, .inl q_408))] := hD
          refine lv_iinc (v := (k_347 + 1)) (lv' := [(1, .int (k_347 + 1)), (0, .ref b_x)]) hx hb d_M_layShort_411 hl (k := 0) rfl rfl (by decide) rfl (fun ls hl => ?_)
          refine lv_goto (tgt := 347) hx hb d_M_layShort_414 (by decide) ?_
          exact ih_347 (k_347 + 1) q_408 _ _ ls (st_nn c_350 hq) (ms_step c_350 hm_347) (by have h := hX_347; rw [mF_StepMachineModel_layShort_L347, if_neg c_350, ← e_357, mF_StepMachineModel_layShort_43, ← e_369, mF_StepMachineModel_layShort_44, if_pos c_375, ← e_383, mF_StepMachineModel_layShort_47, ← e_396, mF_StepMachineModel_layShort_48, ← e_408, mF_StepMachineModel_layShort_49] at h; exact h) hP hD hS (lv_sub hl [0, 1] rfl)
  obtain ⟨q_347, e_347⟩ : ∃ z, z = (mF_StepMachineModel_layShort_L347 (((60 : Int32).toInt - (57 : Int32).toInt).toNat + 1) (57 : Int32) q_341) := ⟨_, rfl⟩
  refine loop_347 (((60 : Int32).toInt - (57 : Int32).toInt).toNat + 1) (57 : Int32) q_341 _ _ ls (by decide) (Nat.lt_succ_self _) ?_ hP hD hS (lv_sub hl [0, 1] rfl)
  rw [← e_347]
  intro H locs ls hq hP hD hS hl
  have hP : va_P D vwCl [(b_x, .inr (9, [.ref b_row, .ref b_part, .ref b_mem, .ref b_mrk, .ref b_sf, .ref b_ss, .ref b_sr, .int m_on, .ref b_h, .int m_hc, .ref b_r, .int m_pc, .ref b_in, .int m_giv, .int m_tak, .ref b_out, .int m_put, .int m_st, .int m_cu, .int m_va, .int m_sp, .int m_un, .ref b_k, .int m_kc, .int m_kn, .int m_by, .int m_kd, .int m_tg, .int m_ju])), (b_row, .inl (tc 0, 2400, .inl q_347.2))] H := hP
  have hD : va_D A [(b_x, .inr (9, [.ref b_row, .ref b_part, .ref b_mem, .ref b_mrk, .ref b_sf, .ref b_ss, .ref b_sr, .int m_on, .ref b_h, .int m_hc, .ref b_r, .int m_pc, .ref b_in, .int m_giv, .int m_tak, .ref b_out, .int m_put, .int m_st, .int m_cu, .int m_va, .int m_sp, .int m_un, .ref b_k, .int m_kc, .int m_kn, .int m_by, .int m_kd, .int m_tg, .int m_ju])), (b_row, .inl (tc 0, 2400, .inl q_347.2))] := hD
  have hl : lv_has ls 2 [(1, .int q_347.1), (0, .ref b_x)] := hl
  refine lv_bipush (v := 60) hx hb d_M_layShort_417 (by decide) ?_
  refine lv_istore_n (lv' := [(1, .int 60), (0, .ref b_x)]) hx hb d_M_layShort_419 rfl hl (by decide) rfl (fun ls hl => ?_)
  have loop_420 : ∀ (n_420 : Nat) (k_420 : Int32) (m_rowL : Nat → Int32) (H : Heap) (locs : List Loc) (ls : Array Slot), (0 ≤ k_420.toInt) → ((64 : Int32).toInt - k_420.toInt).toNat < n_420 → (∀ (H : Heap) (locs : List Loc) (ls : Array Slot), (0 ≤ (mF_StepMachineModel_layShort_L420 n_420 k_420 m_rowL).1.toInt) → va_P D vwCl [(b_x, .inr (9, [.ref b_row, .ref b_part, .ref b_mem, .ref b_mrk, .ref b_sf, .ref b_ss, .ref b_sr, .int m_on, .ref b_h, .int m_hc, .ref b_r, .int m_pc, .ref b_in, .int m_giv, .int m_tak, .ref b_out, .int m_put, .int m_st, .int m_cu, .int m_va, .int m_sp, .int m_un, .ref b_k, .int m_kc, .int m_kn, .int m_by, .int m_kd, .int m_tg, .int m_ju])), (b_row, .inl (tc 0, 2400, .inl ((mF_StepMachineModel_layShort_L420 n_420 k_420 m_rowL).2)))] H → va_D A [(b_x, .inr (9, [.ref b_row, .ref b_part, .ref b_mem, .ref b_mrk, .ref b_sf, .ref b_ss, .ref b_sr, .int m_on, .ref b_h, .int m_hc, .ref b_r, .int m_pc, .ref b_in, .int m_giv, .int m_tak, .ref b_out, .int m_put, .int m_st, .int m_cu, .int m_va, .int m_sp, .int m_un, .ref b_k, .int m_kc, .int m_kn, .int m_by, .int m_kd, .int m_tg, .int m_ju])), (b_row, .inl (tc 0, 2400, .inl ((mF_StepMachineModel_layShort_L420 n_420 k_420 m_rowL).2)))] → va_S A s.heap H locs → lv_has ls 2 [(1, .int ((mF_StepMachineModel_layShort_L420 n_420 k_420 m_rowL).1)), (0, .ref b_x)] → W p l e (headSpec (wM y_M_layShort b_M_layShort 2 none) ({ frames := 3, cells := 0, slots := 0, locals := 70 })).room s m ([.ref b_x]).toArray below meth c H locs 0 0 (MQ below (va_Qv (fun u : (Nat → Int32) => u = (mF_StepMachineModel_layShort m_row)) (Bw D tc A (fun u => [(b_x, .inr (9, [.ref b_row, .ref b_part, .ref b_mem, .ref b_mrk, .ref b_sf, .ref b_ss, .ref b_sr, .int m_on, .ref b_h, .int m_hc, .ref b_r, .int m_pc, .ref b_in, .int m_giv, .int m_tak, .ref b_out, .int m_put, .int m_st, .int m_cu, .int m_va, .int m_sp, .int m_un, .ref b_k, .int m_kc, .int m_kn, .int m_by, .int m_kd, .int m_tg, .int m_ju])), (b_row, .inl (tc 0, 2400, .inl u))])) A) ([.ref b_x]).toArray s 0 0 A) (F0 m 483 ls [])) → va_P D vwCl [(b_x, .inr (9, [.ref b_row, .ref b_part, .ref b_mem, .ref b_mrk, .ref b_sf, .ref b_ss, .ref b_sr, .int m_on, .ref b_h, .int m_hc, .ref b_r, .int m_pc, .ref b_in, .int m_giv, .int m_tak, .ref b_out, .int m_put, .int m_st, .int m_cu, .int m_va, .int m_sp, .int m_un, .ref b_k, .int m_kc, .int m_kn, .int m_by, .int m_kd, .int m_tg, .int m_ju])), (b_row, .inl (tc 0, 2400, .inl m_rowL))] H → va_D A [(b_x, .inr (9, [.ref b_row, .ref b_part, .ref b_mem, .ref b_mrk, .ref b_sf, .ref b_ss, .ref b_sr, .int m_on, .ref b_h, .int m_hc, .ref b_r, .int m_pc, .ref b_in, .int m_giv, .int m_tak, .ref b_out, .int m_put, .int m_st, .int m_cu, .int m_va, .int m_sp, .int m_un, .ref b_k, .int m_kc, .int m_kn, .int m_by, .int m_kd, .int m_tg, .int m_ju])), (b_row, .inl (tc 0, 2400, .inl m_rowL))] → va_S A s.heap H locs → lv_has ls 2 [(1, .int k_420), (0, .ref b_x)] → W p l e (headSpec (wM y_M_layShort b_M_layShort 2 none) ({ frames := 3, cells := 0, slots := 0, locals := 70 })).room s m ([.ref b_x]).toArray below meth c H locs 0 0 (MQ below (va_Qv (fun u : (Nat → Int32) => u = (mF_StepMachineModel_layShort m_row)) (Bw D tc A (fun u => [(b_x, .inr (9, [.ref b_row, .ref b_part, .ref b_mem, .ref b_mrk, .ref b_sf, .ref b_ss, .ref b_sr, .int m_on, .ref b_h, .int m_hc, .ref b_r, .int m_pc, .ref b_in, .int m_giv, .int m_tak, .ref b_out, .int m_put, .int m_st, .int m_cu, .int m_va, .int m_sp, .int m_un, .ref b_k, .int m_kc, .int m_kn, .int m_by, .int m_kd, .int m_tg, .int m_ju])), (b_row, .inl (tc 0, 2400, .inl u))])) A) ([.ref b_x]).toArray s 0 0 A) (F0 m 420 ls []) := by
    intro n_420
    induction n_420 with
    | zero =>
      intro k_420 m_rowL H locs ls hq hm
      exact absurd hm (Nat.not_lt_zero _)
    | succ n_420 ih_420 =>
      intro k_420 m_rowL H locs ls hq hm_420 hX_420 hP hD hS hl
      refine lv_iload_n hx hb d_M_layShort_420 rfl (lv_at hl 0 rfl) ?_
      refine lv_bipush (v := 64) hx hb d_M_layShort_421 (by decide) ?_
      refine lv_icmp_ge (tgt := 483) hx hb d_M_layShort_423 (by decide) (fun c_423 => ?_) (fun c_423 => ?_)
      · skip
        rw [mF_StepMachineModel_layShort_L420, if_pos c_423] at hX_420
        exact hX_420 _ _ ls hq hP hD hS (lv_sub hl [0, 1] rfl)
      · skip
        refine lv_aload_n hx hb d_M_layShort_426 rfl (lv_at hl 1 rfl) ?_
        refine lv_iload_n hx hb d_M_layShort_427 rfl (lv_at hl 0 rfl) ?_
        refine lv_iconst (v := 4) hx hb d_M_layShort_428 (by decide) ?_
        refine lv_iconst (v := 1) hx hb d_M_layShort_429 (by decide) ?_
        obtain ⟨q_430, e_430⟩ : ∃ z, z = (mF_StepMachineModel_ends m_rowL k_420 4 1) := ⟨_, rfl⟩
        refine wVv (As := [.int k_420, .int 4, .int 1]) (rest := []) e_430 ⟨hx, hb, hml, hown, hts⟩ (mc_StepMachineModel_ends l D tc tb z0 _ b_x b_row b_part b_mem b_mrk b_sf b_ss b_sr b_h b_r b_in b_out b_k m_on m_hc m_pc m_giv m_tak m_put m_st m_cu m_va m_sp m_un m_kc m_kn m_by m_kd m_tg m_ju m_rowL k_420 4 1 (k75 hq c_423 (by decide))) (cwV 3 hts (goodV a_624 a_625 a_914 a_10 a_626) rfl rfl rfl hv_M_ends ⟨Nat.le_of_ble_eq_true rfl, Nat.le_of_ble_eq_true rfl⟩) hP hD hS hA hZ hK hB [0, 1] rfl (by decide) (fun _ => rfl) rfl rfl rfl hl.1 rfl (Nat.le_of_ble_eq_true rfl) d_M_layShort_430 ⟨Nat.zero_le _, Nat.zero_le _⟩ (fun H locs hP hD hS => ?_)
        have hP : va_P D vwCl [(b_x, .inr (9, [.ref b_row, .ref b_part, .ref b_mem, .ref b_mrk, .ref b_sf, .ref b_ss, .ref b_sr, .int m_on, .ref b_h, .int m_hc, .ref b_r, .int m_pc, .ref b_in, .int m_giv, .int m_tak, .ref b_out, .int m_put, .int m_st, .int m_cu, .int m_va, .int m_sp, .int m_un, .ref b_k, .int m_kc, .int m_kn, .int m_by, .int m_kd, .int m_tg, .int m_ju])), (b_row, .inl (tc 0, 2400, .inl q_430))] H := hP
        have hD : va_D A [(b_x, .inr (9, [.ref b_row, .ref b_part, .ref b_mem, .ref b_mrk, .ref b_sf, .ref b_ss, .ref b_sr, .int m_on, .ref b_h, .int m_hc, .ref b_r, .int m_pc, .ref b_in, .int m_giv, .int m_tak, .ref b_out, .int m_put, .int m_st, .int m_cu, .int m_va, .int m_sp, .int m_un, .ref b_k, .int m_kc, .int m_kn, .int m_by, .int m_kd, .int m_tg, .int m_ju])), (b_row, .inl (tc 0, 2400, .inl q_430))] := hD
        refine lv_aload_n hx hb d_M_layShort_433 rfl (lv_at hl 1 rfl) ?_
        refine lv_iload_n hx hb d_M_layShort_434 rfl (lv_at hl 0 rfl) ?_
        refine lv_bipush (v := 10) hx hb d_M_layShort_435 (by decide) ?_
        refine lv_iconst (v := 3) hx hb d_M_layShort_437 (by decide) ?_
        refine lv_iconst (v := 3) hx hb d_M_layShort_438 (by decide) ?_
        obtain ⟨q_439, e_439⟩ : ∃ z, z = (mF_StepMachineModel_fix q_430 k_420 10 3 3) := ⟨_, rfl⟩
        refine wVv (As := [.int k_420, .int 10, .int 3, .int 3]) (rest := []) e_439 ⟨hx, hb, hml, hown, hts⟩ (mc_StepMachineModel_fix l D tc tb z0 _ b_x b_row b_part b_mem b_mrk b_sf b_ss b_sr b_h b_r b_in b_out b_k m_on m_hc m_pc m_giv m_tak m_put m_st m_cu m_va m_sp m_un m_kc m_kn m_by m_kd m_tg m_ju q_430 k_420 10 3 3 (k75 hq c_423 (by decide)) (by decide) (by decide)) (cwV 4 hts (goodV a_597 a_598 a_911 a_10 a_599) rfl rfl rfl hv_M_fix ⟨Nat.le_of_ble_eq_true rfl, Nat.le_of_ble_eq_true rfl⟩) hP hD hS hA hZ hK hB [0, 1] rfl (by decide) (fun _ => rfl) rfl rfl rfl hl.1 rfl (Nat.le_of_ble_eq_true rfl) d_M_layShort_439 ⟨Nat.zero_le _, Nat.zero_le _⟩ (fun H locs hP hD hS => ?_)
        have hP : va_P D vwCl [(b_x, .inr (9, [.ref b_row, .ref b_part, .ref b_mem, .ref b_mrk, .ref b_sf, .ref b_ss, .ref b_sr, .int m_on, .ref b_h, .int m_hc, .ref b_r, .int m_pc, .ref b_in, .int m_giv, .int m_tak, .ref b_out, .int m_put, .int m_st, .int m_cu, .int m_va, .int m_sp, .int m_un, .ref b_k, .int m_kc, .int m_kn, .int m_by, .int m_kd, .int m_tg, .int m_ju])), (b_row, .inl (tc 0, 2400, .inl q_439))] H := hP
        have hD : va_D A [(b_x, .inr (9, [.ref b_row, .ref b_part, .ref b_mem, .ref b_mrk, .ref b_sf, .ref b_ss, .ref b_sr, .int m_on, .ref b_h, .int m_hc, .ref b_r, .int m_pc, .ref b_in, .int m_giv, .int m_tak, .ref b_out, .int m_put, .int m_st, .int m_cu, .int m_va, .int m_sp, .int m_un, .ref b_k, .int m_kc, .int m_kn, .int m_by, .int m_kd, .int m_tg, .int m_ju])), (b_row, .inl (tc 0, 2400, .inl q_439))] := hD
        refine lv_aload_n hx hb d_M_layShort_442 rfl (lv_at hl 1 rfl) ?_
        refine lv_iload_n hx hb d_M_layShort_443 rfl (lv_at hl 0 rfl) ?_
        refine lv_bipush (v := 9) hx hb d_M_layShort_444 (by decide) ?_
        refine lv_bipush (v := 7) hx hb d_M_layShort_446 (by decide) ?_
        refine lv_sipush (v := 500) hx hb d_M_layShort_448 (by decide) ?_
        refine lv_iconst (v := 2) hx hb d_M_layShort_451 (by decide) ?_
        obtain ⟨q_452, e_452⟩ : ∃ z, z = (mF_StepMachineModel_lay q_439 k_420 9 7 500 2) := ⟨_, rfl⟩
        refine wVv (As := [.int k_420, .int 9, .int 7, .int 500, .int 2]) (rest := []) e_452 ⟨hx, hb, hml, hown, hts⟩ (mc_StepMachineModel_lay l D tc tb z0 _ b_x b_row b_part b_mem b_mrk b_sf b_ss b_sr b_h b_r b_in b_out b_k m_on m_hc m_pc m_giv m_tak m_put m_st m_cu m_va m_sp m_un m_kc m_kn m_by m_kd m_tg m_ju q_439 k_420 9 7 500 2 (k75 hq c_423 (by decide)) (by decide) (by decide)) (cwV 5 hts (goodV a_603 a_604 a_912 a_10 a_605) rfl rfl rfl hv_M_lay ⟨Nat.le_of_ble_eq_true rfl, Nat.le_of_ble_eq_true rfl⟩) hP hD hS hA hZ hK hB [0, 1] rfl (by decide) (fun _ => rfl) rfl rfl rfl hl.1 rfl (Nat.le_of_ble_eq_true rfl) d_M_layShort_452 ⟨Nat.zero_le _, Nat.zero_le _⟩ (fun H locs hP hD hS => ?_)
        have hP : va_P D vwCl [(b_x, .inr (9, [.ref b_row, .ref b_part, .ref b_mem, .ref b_mrk, .ref b_sf, .ref b_ss, .ref b_sr, .int m_on, .ref b_h, .int m_hc, .ref b_r, .int m_pc, .ref b_in, .int m_giv, .int m_tak, .ref b_out, .int m_put, .int m_st, .int m_cu, .int m_va, .int m_sp, .int m_un, .ref b_k, .int m_kc, .int m_kn, .int m_by, .int m_kd, .int m_tg, .int m_ju])), (b_row, .inl (tc 0, 2400, .inl q_452))] H := hP
        have hD : va_D A [(b_x, .inr (9, [.ref b_row, .ref b_part, .ref b_mem, .ref b_mrk, .ref b_sf, .ref b_ss, .ref b_sr, .int m_on, .ref b_h, .int m_hc, .ref b_r, .int m_pc, .ref b_in, .int m_giv, .int m_tak, .ref b_out, .int m_put, .int m_st, .int m_cu, .int m_va, .int m_sp, .int m_un, .ref b_k, .int m_kc, .int m_kn, .int m_by, .int m_kd, .int m_tg, .int m_ju])), (b_row, .inl (tc 0, 2400, .inl q_452))] := hD
        refine lv_aload_n hx hb d_M_layShort_455 rfl (lv_at hl 1 rfl) ?_
        refine lv_iload_n hx hb d_M_layShort_456 rfl (lv_at hl 0 rfl) ?_
        refine lv_iconst (v := 5) hx hb d_M_layShort_457 (by decide) ?_
        refine lv_iconst (v := 2) hx hb d_M_layShort_458 (by decide) ?_
        refine lv_iload_n hx hb d_M_layShort_459 rfl (lv_at hl 0 rfl) ?_
        refine lv_bipush (v := 60) hx hb d_M_layShort_460 (by decide) ?_
        refine lv_isub hx hb d_M_layShort_462 ?_
        obtain ⟨q_463, e_463⟩ : ∃ z, z = (mF_StepMachineModel_fix q_452 k_420 5 2 (k_420 - 60)) := ⟨_, rfl⟩
        refine wVv (As := [.int k_420, .int 5, .int 2, .int (k_420 - 60)]) (rest := []) e_463 ⟨hx, hb, hml, hown, hts⟩ (mc_StepMachineModel_fix l D tc tb z0 _ b_x b_row b_part b_mem b_mrk b_sf b_ss b_sr b_h b_r b_in b_out b_k m_on m_hc m_pc m_giv m_tak m_put m_st m_cu m_va m_sp m_un m_kc m_kn m_by m_kd m_tg m_ju q_452 k_420 5 2 (k_420 - 60) (k75 hq c_423 (by decide)) (by decide) (by decide)) (cwV 4 hts (goodV a_597 a_598 a_911 a_10 a_599) rfl rfl rfl hv_M_fix ⟨Nat.le_of_ble_eq_true rfl, Nat.le_of_ble_eq_true rfl⟩) hP hD hS hA hZ hK hB [0, 1] rfl (by decide) (fun _ => rfl) rfl rfl rfl hl.1 rfl (Nat.le_of_ble_eq_true rfl) d_M_layShort_463 ⟨Nat.zero_le _, Nat.zero_le _⟩ (fun H locs hP hD hS => ?_)
        have hP : va_P D vwCl [(b_x, .inr (9, [.ref b_row, .ref b_part, .ref b_mem, .ref b_mrk, .ref b_sf, .ref b_ss, .ref b_sr, .int m_on, .ref b_h, .int m_hc, .ref b_r, .int m_pc, .ref b_in, .int m_giv, .int m_tak, .ref b_out, .int m_put, .int m_st, .int m_cu, .int m_va, .int m_sp, .int m_un, .ref b_k, .int m_kc, .int m_kn, .int m_by, .int m_kd, .int m_tg, .int m_ju])), (b_row, .inl (tc 0, 2400, .inl q_463))] H := hP
        have hD : va_D A [(b_x, .inr (9, [.ref b_row, .ref b_part, .ref b_mem, .ref b_mrk, .ref b_sf, .ref b_ss, .ref b_sr, .int m_on, .ref b_h, .int m_hc, .ref b_r, .int m_pc, .ref b_in, .int m_giv, .int m_tak, .ref b_out, .int m_put, .int m_st, .int m_cu, .int m_va, .int m_sp, .int m_un, .ref b_k, .int m_kc, .int m_kn, .int m_by, .int m_kd, .int m_tg, .int m_ju])), (b_row, .inl (tc 0, 2400, .inl q_463))] := hD
        refine lv_aload_n hx hb d_M_layShort_466 rfl (lv_at hl 1 rfl) ?_
        refine lv_iload_n hx hb d_M_layShort_467 rfl (lv_at hl 0 rfl) ?_
        refine lv_iconst (v := 4) hx hb d_M_layShort_468 (by decide) ?_
        refine lv_iconst (v := 2) hx hb d_M_layShort_469 (by decide) ?_
        refine lv_sipush (v := 700) hx hb d_M_layShort_470 (by decide) ?_
        refine lv_iconst (v := 2) hx hb d_M_layShort_473 (by decide) ?_
        obtain ⟨q_474, e_474⟩ : ∃ z, z = (mF_StepMachineModel_lay q_463 k_420 4 2 700 2) := ⟨_, rfl⟩
        refine wVv (As := [.int k_420, .int 4, .int 2, .int 700, .int 2]) (rest := []) e_474 ⟨hx, hb, hml, hown, hts⟩ (mc_StepMachineModel_lay l D tc tb z0 _ b_x b_row b_part b_mem b_mrk b_sf b_ss b_sr b_h b_r b_in b_out b_k m_on m_hc m_pc m_giv m_tak m_put m_st m_cu m_va m_sp m_un m_kc m_kn m_by m_kd m_tg m_ju q_463 k_420 4 2 700 2 (k75 hq c_423 (by decide)) (by decide) (by decide)) (cwV 5 hts (goodV a_603 a_604 a_912 a_10 a_605) rfl rfl rfl hv_M_lay ⟨Nat.le_of_ble_eq_true rfl, Nat.le_of_ble_eq_true rfl⟩) hP hD hS hA hZ hK hB [0, 1] rfl (by decide) (fun _ => rfl) rfl rfl rfl hl.1 rfl (Nat.le_of_ble_eq_true rfl) d_M_layShort_474 ⟨Nat.zero_le _, Nat.zero_le _⟩ (fun H locs hP hD hS => ?_)
        have hP : va_P D vwCl [(b_x, .inr (9, [.ref b_row, .ref b_part, .ref b_mem, .ref b_mrk, .ref b_sf, .ref b_ss, .ref b_sr, .int m_on, .ref b_h, .int m_hc, .ref b_r, .int m_pc, .ref b_in, .int m_giv, .int m_tak, .ref b_out, .int m_put, .int m_st, .int m_cu, .int m_va, .int m_sp, .int m_un, .ref b_k, .int m_kc, .int m_kn, .int m_by, .int m_kd, .int m_tg, .int m_ju])), (b_row, .inl (tc 0, 2400, .inl q_474))] H := hP
        have hD : va_D A [(b_x, .inr (9, [.ref b_row, .ref b_part, .ref b_mem, .ref b_mrk, .ref b_sf, .ref b_ss, .ref b_sr, .int m_on, .ref b_h, .int m_hc, .ref b_r, .int m_pc, .ref b_in, .int m_giv, .int m_tak, .ref b_out, .int m_put, .int m_st, .int m_cu, .int m_va, .int m_sp, .int m_un, .ref b_k, .int m_kc, .int m_kn, .int m_by, .int m_kd, .int m_tg, .int m_ju])), (b_row, .inl (tc 0, 2400, .inl q_474))] := hD
        refine lv_iinc (v := (k_420 + 1)) (lv' := [(1, .int (k_420 + 1)), (0, .ref b_x)]) hx hb d_M_layShort_477 hl (k := 0) rfl rfl (by decide) rfl (fun ls hl => ?_)
        refine lv_goto (tgt := 420) hx hb d_M_layShort_480 (by decide) ?_
        exact ih_420 (k_420 + 1) q_474 _ _ ls (st_nn c_423 hq) (ms_step c_423 hm_420) (by have h := hX_420; rw [mF_StepMachineModel_layShort_L420, if_neg c_423, ← e_430, mF_StepMachineModel_layShort_51, ← e_439, mF_StepMachineModel_layShort_52, ← e_452, mF_StepMachineModel_layShort_53, ← e_463, mF_StepMachineModel_layShort_54, ← e_474, mF_StepMachineModel_layShort_55] at h; exact h) hP hD hS (lv_sub hl [0, 1] rfl)
  obtain ⟨q_420, e_420⟩ : ∃ z, z = (mF_StepMachineModel_layShort_L420 (((64 : Int32).toInt - (60 : Int32).toInt).toNat + 1) (60 : Int32) q_347.2) := ⟨_, rfl⟩
  refine loop_420 (((64 : Int32).toInt - (60 : Int32).toInt).toNat + 1) (60 : Int32) q_347.2 _ _ ls (by decide) (Nat.lt_succ_self _) ?_ hP hD hS (lv_sub hl [0, 1] rfl)
  rw [← e_420]
  intro H locs ls hq hP hD hS hl
  have hP : va_P D vwCl [(b_x, .inr (9, [.ref b_row, .ref b_part, .ref b_mem, .ref b_mrk, .ref b_sf, .ref b_ss, .ref b_sr, .int m_on, .ref b_h, .int m_hc, .ref b_r, .int m_pc, .ref b_in, .int m_giv, .int m_tak, .ref b_out, .int m_put, .int m_st, .int m_cu, .int m_va, .int m_sp, .int m_un, .ref b_k, .int m_kc, .int m_kn, .int m_by, .int m_kd, .int m_tg, .int m_ju])), (b_row, .inl (tc 0, 2400, .inl q_420.2))] H := hP
  have hD : va_D A [(b_x, .inr (9, [.ref b_row, .ref b_part, .ref b_mem, .ref b_mrk, .ref b_sf, .ref b_ss, .ref b_sr, .int m_on, .ref b_h, .int m_hc, .ref b_r, .int m_pc, .ref b_in, .int m_giv, .int m_tak, .ref b_out, .int m_put, .int m_st, .int m_cu, .int m_va, .int m_sp, .int m_un, .ref b_k, .int m_kc, .int m_kn, .int m_by, .int m_kd, .int m_tg, .int m_ju])), (b_row, .inl (tc 0, 2400, .inl q_420.2))] := hD
  have hl : lv_has ls 2 [(1, .int q_420.1), (0, .ref b_x)] := hl
  refine lv_bipush (v := 65) hx hb d_M_layShort_483 (by decide) ?_
  refine lv_istore_n (lv' := [(1, .int 65), (0, .ref b_x)]) hx hb d_M_layShort_485 rfl hl (by decide) rfl (fun ls hl => ?_)
  have loop_486 : ∀ (n_486 : Nat) (k_486 : Int32) (m_rowL : Nat → Int32) (H : Heap) (locs : List Loc) (ls : Array Slot), (0 ≤ k_486.toInt) → ((67 : Int32).toInt - k_486.toInt).toNat < n_486 → (∀ (H : Heap) (locs : List Loc) (ls : Array Slot), (0 ≤ (mF_StepMachineModel_layShort_L486 n_486 k_486 m_rowL).1.toInt) → va_P D vwCl [(b_x, .inr (9, [.ref b_row, .ref b_part, .ref b_mem, .ref b_mrk, .ref b_sf, .ref b_ss, .ref b_sr, .int m_on, .ref b_h, .int m_hc, .ref b_r, .int m_pc, .ref b_in, .int m_giv, .int m_tak, .ref b_out, .int m_put, .int m_st, .int m_cu, .int m_va, .int m_sp, .int m_un, .ref b_k, .int m_kc, .int m_kn, .int m_by, .int m_kd, .int m_tg, .int m_ju])), (b_row, .inl (tc 0, 2400, .inl ((mF_StepMachineModel_layShort_L486 n_486 k_486 m_rowL).2)))] H → va_D A [(b_x, .inr (9, [.ref b_row, .ref b_part, .ref b_mem, .ref b_mrk, .ref b_sf, .ref b_ss, .ref b_sr, .int m_on, .ref b_h, .int m_hc, .ref b_r, .int m_pc, .ref b_in, .int m_giv, .int m_tak, .ref b_out, .int m_put, .int m_st, .int m_cu, .int m_va, .int m_sp, .int m_un, .ref b_k, .int m_kc, .int m_kn, .int m_by, .int m_kd, .int m_tg, .int m_ju])), (b_row, .inl (tc 0, 2400, .inl ((mF_StepMachineModel_layShort_L486 n_486 k_486 m_rowL).2)))] → va_S A s.heap H locs → lv_has ls 2 [(1, .int ((mF_StepMachineModel_layShort_L486 n_486 k_486 m_rowL).1)), (0, .ref b_x)] → W p l e (headSpec (wM y_M_layShort b_M_layShort 2 none) ({ frames := 3, cells := 0, slots := 0, locals := 70 })).room s m ([.ref b_x]).toArray below meth c H locs 0 0 (MQ below (va_Qv (fun u : (Nat → Int32) => u = (mF_StepMachineModel_layShort m_row)) (Bw D tc A (fun u => [(b_x, .inr (9, [.ref b_row, .ref b_part, .ref b_mem, .ref b_mrk, .ref b_sf, .ref b_ss, .ref b_sr, .int m_on, .ref b_h, .int m_hc, .ref b_r, .int m_pc, .ref b_in, .int m_giv, .int m_tak, .ref b_out, .int m_put, .int m_st, .int m_cu, .int m_va, .int m_sp, .int m_un, .ref b_k, .int m_kc, .int m_kn, .int m_by, .int m_kd, .int m_tg, .int m_ju])), (b_row, .inl (tc 0, 2400, .inl u))])) A) ([.ref b_x]).toArray s 0 0 A) (F0 m 583 ls [])) → va_P D vwCl [(b_x, .inr (9, [.ref b_row, .ref b_part, .ref b_mem, .ref b_mrk, .ref b_sf, .ref b_ss, .ref b_sr, .int m_on, .ref b_h, .int m_hc, .ref b_r, .int m_pc, .ref b_in, .int m_giv, .int m_tak, .ref b_out, .int m_put, .int m_st, .int m_cu, .int m_va, .int m_sp, .int m_un, .ref b_k, .int m_kc, .int m_kn, .int m_by, .int m_kd, .int m_tg, .int m_ju])), (b_row, .inl (tc 0, 2400, .inl m_rowL))] H → va_D A [(b_x, .inr (9, [.ref b_row, .ref b_part, .ref b_mem, .ref b_mrk, .ref b_sf, .ref b_ss, .ref b_sr, .int m_on, .ref b_h, .int m_hc, .ref b_r, .int m_pc, .ref b_in, .int m_giv, .int m_tak, .ref b_out, .int m_put, .int m_st, .int m_cu, .int m_va, .int m_sp, .int m_un, .ref b_k, .int m_kc, .int m_kn, .int m_by, .int m_kd, .int m_tg, .int m_ju])), (b_row, .inl (tc 0, 2400, .inl m_rowL))] → va_S A s.heap H locs → lv_has ls 2 [(1, .int k_486), (0, .ref b_x)] → W p l e (headSpec (wM y_M_layShort b_M_layShort 2 none) ({ frames := 3, cells := 0, slots := 0, locals := 70 })).room s m ([.ref b_x]).toArray below meth c H locs 0 0 (MQ below (va_Qv (fun u : (Nat → Int32) => u = (mF_StepMachineModel_layShort m_row)) (Bw D tc A (fun u => [(b_x, .inr (9, [.ref b_row, .ref b_part, .ref b_mem, .ref b_mrk, .ref b_sf, .ref b_ss, .ref b_sr, .int m_on, .ref b_h, .int m_hc, .ref b_r, .int m_pc, .ref b_in, .int m_giv, .int m_tak, .ref b_out, .int m_put, .int m_st, .int m_cu, .int m_va, .int m_sp, .int m_un, .ref b_k, .int m_kc, .int m_kn, .int m_by, .int m_kd, .int m_tg, .int m_ju])), (b_row, .inl (tc 0, 2400, .inl u))])) A) ([.ref b_x]).toArray s 0 0 A) (F0 m 486 ls []) := by
    intro n_486
    induction n_486 with
    | zero =>
      intro k_486 m_rowL H locs ls hq hm
      exact absurd hm (Nat.not_lt_zero _)
    | succ n_486 ih_486 =>
      intro k_486 m_rowL H locs ls hq hm_486 hX_486 hP hD hS hl
      refine lv_iload_n hx hb d_M_layShort_486 rfl (lv_at hl 0 rfl) ?_
      refine lv_bipush (v := 67) hx hb d_M_layShort_487 (by decide) ?_
      refine lv_icmp_ge (tgt := 583) hx hb d_M_layShort_489 (by decide) (fun c_489 => ?_) (fun c_489 => ?_)
      · skip
        rw [mF_StepMachineModel_layShort_L486, if_pos c_489] at hX_486
        exact hX_486 _ _ ls hq hP hD hS (lv_sub hl [0, 1] rfl)
      · skip
        refine lv_aload_n hx hb d_M_layShort_492 rfl (lv_at hl 1 rfl) ?_
        refine lv_iload_n hx hb d_M_layShort_493 rfl (lv_at hl 0 rfl) ?_
        refine lv_iload_n hx hb d_M_layShort_494 rfl (lv_at hl 0 rfl) ?_
        refine lv_bipush (v := 65) hx hb d_M_layShort_495 (by decide) ?_
        refine lv_icmp_ne (tgt := 505) hx hb d_M_layShort_497 (by decide) (fun c_497 => ?_) (fun c_497 => ?_)
        · skip
          refine lv_bipush (v := 7) hx hb d_M_layShort_505 (by decide) ?_
          refine lv_iconst (v := 1) hx hb d_M_layShort_507 (by decide) ?_
          obtain ⟨q_508, e_508⟩ : ∃ z, z = (mF_StepMachineModel_ends m_rowL k_486 7 1) := ⟨_, rfl⟩
          refine wVv (As := [.int k_486, .int 7, .int 1]) (rest := []) e_508 ⟨hx, hb, hml, hown, hts⟩ (mc_StepMachineModel_ends l D tc tb z0 _ b_x b_row b_part b_mem b_mrk b_sf b_ss b_sr b_h b_r b_in b_out b_k m_on m_hc m_pc m_giv m_tak m_put m_st m_cu m_va m_sp m_un m_kc m_kn m_by m_kd m_tg m_ju m_rowL k_486 7 1 (k75 hq c_489 (by decide))) (cwV 3 hts (goodV a_624 a_625 a_914 a_10 a_626) rfl rfl rfl hv_M_ends ⟨Nat.le_of_ble_eq_true rfl, Nat.le_of_ble_eq_true rfl⟩) hP hD hS hA hZ hK hB [0, 1] rfl (by decide) (fun _ => rfl) rfl rfl rfl hl.1 rfl (Nat.le_of_ble_eq_true rfl) d_M_layShort_508 ⟨Nat.zero_le _, Nat.zero_le _⟩ (fun H locs hP hD hS => ?_)
          have hP : va_P D vwCl [(b_x, .inr (9, [.ref b_row, .ref b_part, .ref b_mem, .ref b_mrk, .ref b_sf, .ref b_ss, .ref b_sr, .int m_on, .ref b_h, .int m_hc, .ref b_r, .int m_pc, .ref b_in, .int m_giv, .int m_tak, .ref b_out, .int m_put, .int m_st, .int m_cu, .int m_va, .int m_sp, .int m_un, .ref b_k, .int m_kc, .int m_kn, .int m_by, .int m_kd, .int m_tg, .int m_ju])), (b_row, .inl (tc 0, 2400, .inl q_508))] H := hP
          have hD : va_D A [(b_x, .inr (9, [.ref b_row, .ref b_part, .ref b_mem, .ref b_mrk, .ref b_sf, .ref b_ss, .ref b_sr, .int m_on, .ref b_h, .int m_hc, .ref b_r, .int m_pc, .ref b_in, .int m_giv, .int m_tak, .ref b_out, .int m_put, .int m_st, .int m_cu, .int m_va, .int m_sp, .int m_un, .ref b_k, .int m_kc, .int m_kn, .int m_by, .int m_kd, .int m_tg, .int m_ju])), (b_row, .inl (tc 0, 2400, .inl q_508))] := hD
          refine lv_aload_n hx hb d_M_layShort_511 rfl (lv_at hl 1 rfl) ?_
          refine lv_iload_n hx hb d_M_layShort_512 rfl (lv_at hl 0 rfl) ?_
          refine lv_bipush (v := 12) hx hb d_M_layShort_513 (by decide) ?_
          refine lv_bipush (v := 8) hx hb d_M_layShort_515 (by decide) ?_
          obtain ⟨q_517, e_517⟩ : ∃ z, z = (mF_StepMachineModel_one q_508 k_486 12 8) := ⟨_, rfl⟩
          refine wVv (As := [.int k_486, .int 12, .int 8]) (rest := []) e_517 ⟨hx, hb, hml, hown, hts⟩ (mc_StepMachineModel_one l D tc tb z0 _ b_x b_row b_part b_mem b_mrk b_sf b_ss b_sr b_h b_r b_in b_out b_k m_on m_hc m_pc m_giv m_tak m_put m_st m_cu m_va m_sp m_un m_kc m_kn m_by m_kd m_tg m_ju q_508 k_486 12 8 (k75 hq c_489 (by decide)) (by decide)) (cwV 3 hts (goodV a_627 a_628 a_915 a_10 a_629) rfl rfl rfl hv_M_one ⟨Nat.le_of_ble_eq_true rfl, Nat.le_of_ble_eq_true rfl⟩) hP hD hS hA hZ hK hB [0, 1] rfl (by decide) (fun _ => rfl) rfl rfl rfl hl.1 rfl (Nat.le_of_ble_eq_true rfl) d_M_layShort_517 ⟨Nat.zero_le _, Nat.zero_le _⟩ (fun H locs hP hD hS => ?_)
          have hP : va_P D vwCl [(b_x, .inr (9, [.ref b_row, .ref b_part, .ref b_mem, .ref b_mrk, .ref b_sf, .ref b_ss, .ref b_sr, .int m_on, .ref b_h, .int m_hc, .ref b_r, .int m_pc, .ref b_in, .int m_giv, .int m_tak, .ref b_out, .int m_put, .int m_st, .int m_cu, .int m_va, .int m_sp, .int m_un, .ref b_k, .int m_kc, .int m_kn, .int m_by, .int m_kd, .int m_tg, .int m_ju])), (b_row, .inl (tc 0, 2400, .inl q_517))] H := hP
          have hD : va_D A [(b_x, .inr (9, [.ref b_row, .ref b_part, .ref b_mem, .ref b_mrk, .ref b_sf, .ref b_ss, .ref b_sr, .int m_on, .ref b_h, .int m_hc, .ref b_r, .int m_pc, .ref b_in, .int m_giv, .int m_tak, .ref b_out, .int m_put, .int m_st, .int m_cu, .int m_va, .int m_sp, .int m_un, .ref b_k, .int m_kc, .int m_kn, .int m_by, .int m_kd, .int m_tg, .int m_ju])), (b_row, .inl (tc 0, 2400, .inl q_517))] := hD
          refine lv_aload_n hx hb d_M_layShort_520 rfl (lv_at hl 1 rfl) ?_
          refine lv_iload_n hx hb d_M_layShort_521 rfl (lv_at hl 0 rfl) ?_
          refine lv_bipush (v := 11) hx hb d_M_layShort_522 (by decide) ?_
          refine lv_bipush (v := 10) hx hb d_M_layShort_524 (by decide) ?_
          refine lv_sipush (v := 400) hx hb d_M_layShort_526 (by decide) ?_
          refine lv_iconst (v := 4) hx hb d_M_layShort_529 (by decide) ?_
          obtain ⟨q_530, e_530⟩ : ∃ z, z = (mF_StepMachineModel_lay q_517 k_486 11 10 400 4) := ⟨_, rfl⟩
          refine wVv (As := [.int k_486, .int 11, .int 10, .int 400, .int 4]) (rest := []) e_530 ⟨hx, hb, hml, hown, hts⟩ (mc_StepMachineModel_lay l D tc tb z0 _ b_x b_row b_part b_mem b_mrk b_sf b_ss b_sr b_h b_r b_in b_out b_k m_on m_hc m_pc m_giv m_tak m_put m_st m_cu m_va m_sp m_un m_kc m_kn m_by m_kd m_tg m_ju q_517 k_486 11 10 400 4 (k75 hq c_489 (by decide)) (by decide) (by decide)) (cwV 5 hts (goodV a_603 a_604 a_912 a_10 a_605) rfl rfl rfl hv_M_lay ⟨Nat.le_of_ble_eq_true rfl, Nat.le_of_ble_eq_true rfl⟩) hP hD hS hA hZ hK hB [0, 1] rfl (by decide) (fun _ => rfl) rfl rfl rfl hl.1 rfl (Nat.le_of_ble_eq_true rfl) d_M_layShort_530 ⟨Nat.zero_le _, Nat.zero_le _⟩ (fun H locs hP hD hS => ?_)
          have hP : va_P D vwCl [(b_x, .inr (9, [.ref b_row, .ref b_part, .ref b_mem, .ref b_mrk, .ref b_sf, .ref b_ss, .ref b_sr, .int m_on, .ref b_h, .int m_hc, .ref b_r, .int m_pc, .ref b_in, .int m_giv, .int m_tak, .ref b_out, .int m_put, .int m_st, .int m_cu, .int m_va, .int m_sp, .int m_un, .ref b_k, .int m_kc, .int m_kn, .int m_by, .int m_kd, .int m_tg, .int m_ju])), (b_row, .inl (tc 0, 2400, .inl q_530))] H := hP
          have hD : va_D A [(b_x, .inr (9, [.ref b_row, .ref b_part, .ref b_mem, .ref b_mrk, .ref b_sf, .ref b_ss, .ref b_sr, .int m_on, .ref b_h, .int m_hc, .ref b_r, .int m_pc, .ref b_in, .int m_giv, .int m_tak, .ref b_out, .int m_put, .int m_st, .int m_cu, .int m_va, .int m_sp, .int m_un, .ref b_k, .int m_kc, .int m_kn, .int m_by, .int m_kd, .int m_tg, .int m_ju])), (b_row, .inl (tc 0, 2400, .inl q_530))] := hD
          refine lv_aload_n hx hb d_M_layShort_533 rfl (lv_at hl 1 rfl) ?_
          refine lv_iload_n hx hb d_M_layShort_534 rfl (lv_at hl 0 rfl) ?_
          refine lv_bipush (v := 9) hx hb d_M_layShort_535 (by decide) ?_
          refine lv_bipush (v := 7) hx hb d_M_layShort_537 (by decide) ?_
          refine lv_sipush (v := 600) hx hb d_M_layShort_539 (by decide) ?_
          refine lv_iconst (v := 2) hx hb d_M_layShort_542 (by decide) ?_
          obtain ⟨q_543, e_543⟩ : ∃ z, z = (mF_StepMachineModel_lay q_530 k_486 9 7 600 2) := ⟨_, rfl⟩
          refine wVv (As := [.int k_486, .int 9, .int 7, .int 600, .int 2]) (rest := []) e_543 ⟨hx, hb, hml, hown, hts⟩ (mc_StepMachineModel_lay l D tc tb z0 _ b_x b_row b_part b_mem b_mrk b_sf b_ss b_sr b_h b_r b_in b_out b_k m_on m_hc m_pc m_giv m_tak m_put m_st m_cu m_va m_sp m_un m_kc m_kn m_by m_kd m_tg m_ju q_530 k_486 9 7 600 2 (k75 hq c_489 (by decide)) (by decide) (by decide)) (cwV 5 hts (goodV a_603 a_604 a_912 a_10 a_605) rfl rfl rfl hv_M_lay ⟨Nat.le_of_ble_eq_true rfl, Nat.le_of_ble_eq_true rfl⟩) hP hD hS hA hZ hK hB [0, 1] rfl (by decide) (fun _ => rfl) rfl rfl rfl hl.1 rfl (Nat.le_of_ble_eq_true rfl) d_M_layShort_543 ⟨Nat.zero_le _, Nat.zero_le _⟩ (fun H locs hP hD hS => ?_)
          have hP : va_P D vwCl [(b_x, .inr (9, [.ref b_row, .ref b_part, .ref b_mem, .ref b_mrk, .ref b_sf, .ref b_ss, .ref b_sr, .int m_on, .ref b_h, .int m_hc, .ref b_r, .int m_pc, .ref b_in, .int m_giv, .int m_tak, .ref b_out, .int m_put, .int m_st, .int m_cu, .int m_va, .int m_sp, .int m_un, .ref b_k, .int m_kc, .int m_kn, .int m_by, .int m_kd, .int m_tg, .int m_ju])), (b_row, .inl (tc 0, 2400, .inl q_543))] H := hP
          have hD : va_D A [(b_x, .inr (9, [.ref b_row, .ref b_part, .ref b_mem, .ref b_mrk, .ref b_sf, .ref b_ss, .ref b_sr, .int m_on, .ref b_h, .int m_hc, .ref b_r, .int m_pc, .ref b_in, .int m_giv, .int m_tak, .ref b_out, .int m_put, .int m_st, .int m_cu, .int m_va, .int m_sp, .int m_un, .ref b_k, .int m_kc, .int m_kn, .int m_by, .int m_kd, .int m_tg, .int m_ju])), (b_row, .inl (tc 0, 2400, .inl q_543))] := hD
          refine lv_aload_n hx hb d_M_layShort_546 rfl (lv_at hl 1 rfl) ?_
          refine lv_iload_n hx hb d_M_layShort_547 rfl (lv_at hl 0 rfl) ?_
          refine lv_bipush (v := 6) hx hb d_M_layShort_548 (by decide) ?_
          refine lv_iconst (v := 5) hx hb d_M_layShort_550 (by decide) ?_
          refine lv_sipush (v := 400) hx hb d_M_layShort_551 (by decide) ?_
          refine lv_bipush (v := 7) hx hb d_M_layShort_554 (by decide) ?_
          obtain ⟨q_556, e_556⟩ : ∃ z, z = (mF_StepMachineModel_lay q_543 k_486 6 5 400 7) := ⟨_, rfl⟩
          refine wVv (As := [.int k_486, .int 6, .int 5, .int 400, .int 7]) (rest := []) e_556 ⟨hx, hb, hml, hown, hts⟩ (mc_StepMachineModel_lay l D tc tb z0 _ b_x b_row b_part b_mem b_mrk b_sf b_ss b_sr b_h b_r b_in b_out b_k m_on m_hc m_pc m_giv m_tak m_put m_st m_cu m_va m_sp m_un m_kc m_kn m_by m_kd m_tg m_ju q_543 k_486 6 5 400 7 (k75 hq c_489 (by decide)) (by decide) (by decide)) (cwV 5 hts (goodV a_603 a_604 a_912 a_10 a_605) rfl rfl rfl hv_M_lay ⟨Nat.le_of_ble_eq_true rfl, Nat.le_of_ble_eq_true rfl⟩) hP hD hS hA hZ hK hB [0, 1] rfl (by decide) (fun _ => rfl) rfl rfl rfl hl.1 rfl (Nat.le_of_ble_eq_true rfl) d_M_layShort_556 ⟨Nat.zero_le _, Nat.zero_le _⟩ (fun H locs hP hD hS => ?_)
          have hP : va_P D vwCl [(b_x, .inr (9, [.ref b_row, .ref b_part, .ref b_mem, .ref b_mrk, .ref b_sf, .ref b_ss, .ref b_sr, .int m_on, .ref b_h, .int m_hc, .ref b_r, .int m_pc, .ref b_in, .int m_giv, .int m_tak, .ref b_out, .int m_put, .int m_st, .int m_cu, .int m_va, .int m_sp, .int m_un, .ref b_k, .int m_kc, .int m_kn, .int m_by, .int m_kd, .int m_tg, .int m_ju])), (b_row, .inl (tc 0, 2400, .inl q_556))] H := hP
          have hD : va_D A [(b_x, .inr (9, [.ref b_row, .ref b_part, .ref b_mem, .ref b_mrk, .ref b_sf, .ref b_ss, .ref b_sr, .int m_on, .ref b_h, .int m_hc, .ref b_r, .int m_pc, .ref b_in, .int m_giv, .int m_tak, .ref b_out, .int m_put, .int m_st, .int m_cu, .int m_va, .int m_sp, .int m_un, .ref b_k, .int m_kc, .int m_kn, .int m_by, .int m_kd, .int m_tg, .int m_ju])), (b_row, .inl (tc 0, 2400, .inl q_556))] := hD
          refine lv_aload_n hx hb d_M_layShort_559 rfl (lv_at hl 1 rfl) ?_
          refine lv_iload_n hx hb d_M_layShort_560 rfl (lv_at hl 0 rfl) ?_
          refine lv_iconst (v := 4) hx hb d_M_layShort_561 (by decide) ?_
          refine lv_iconst (v := 3) hx hb d_M_layShort_562 (by decide) ?_
          refine lv_sipush (v := 400) hx hb d_M_layShort_563 (by decide) ?_
          refine lv_iconst (v := 2) hx hb d_M_layShort_566 (by decide) ?_
          obtain ⟨q_567, e_567⟩ : ∃ z, z = (mF_StepMachineModel_lay q_556 k_486 4 3 400 2) := ⟨_, rfl⟩
          refine wVv (As := [.int k_486, .int 4, .int 3, .int 400, .int 2]) (rest := []) e_567 ⟨hx, hb, hml, hown, hts⟩ (mc_StepMachineModel_lay l D tc tb z0 _ b_x b_row b_part b_mem b_mrk b_sf b_ss b_sr b_h b_r b_in b_out b_k m_on m_hc m_pc m_giv m_tak m_put m_st m_cu m_va m_sp m_un m_kc m_kn m_by m_kd m_tg m_ju q_556 k_486 4 3 400 2 (k75 hq c_489 (by decide)) (by decide) (by decide)) (cwV 5 hts (goodV a_603 a_604 a_912 a_10 a_605) rfl rfl rfl hv_M_lay ⟨Nat.le_of_ble_eq_true rfl, Nat.le_of_ble_eq_true rfl⟩) hP hD hS hA hZ hK hB [0, 1] rfl (by decide) (fun _ => rfl) rfl rfl rfl hl.1 rfl (Nat.le_of_ble_eq_true rfl) d_M_layShort_567 ⟨Nat.zero_le _, Nat.zero_le _⟩ (fun H locs hP hD hS => ?_)
          have hP : va_P D vwCl [(b_x, .inr (9, [.ref b_row, .ref b_part, .ref b_mem, .ref b_mrk, .ref b_sf, .ref b_ss, .ref b_sr, .int m_on, .ref b_h, .int m_hc, .ref b_r, .int m_pc, .ref b_in, .int m_giv, .int m_tak, .ref b_out, .int m_put, .int m_st, .int m_cu, .int m_va, .int m_sp, .int m_un, .ref b_k, .int m_kc, .int m_kn, .int m_by, .int m_kd, .int m_tg, .int m_ju])), (b_row, .inl (tc 0, 2400, .inl q_567))] H := hP
          have hD : va_D A [(b_x, .inr (9, [.ref b_row, .ref b_part, .ref b_mem, .ref b_mrk, .ref b_sf, .ref b_ss, .ref b_sr, .int m_on, .ref b_h, .int m_hc, .ref b_r, .int m_pc, .ref b_in, .int m_giv, .int m_tak, .ref b_out, .int m_put, .int m_st, .int m_cu, .int m_va, .int m_sp, .int m_un, .ref b_k, .int m_kc, .int m_kn, .int m_by, .int m_kd, .int m_tg, .int m_ju])), (b_row, .inl (tc 0, 2400, .inl q_567))] := hD
          refine lv_aload_n hx hb d_M_layShort_570 rfl (lv_at hl 1 rfl) ?_
          refine lv_iload_n hx hb d_M_layShort_571 rfl (lv_at hl 0 rfl) ?_
          refine lv_iconst (v := 2) hx hb d_M_layShort_572 (by decide) ?_
          refine lv_iconst (v := 5) hx hb d_M_layShort_573 (by decide) ?_
          obtain ⟨q_574, e_574⟩ : ∃ z, z = (mF_StepMachineModel_one q_567 k_486 2 5) := ⟨_, rfl⟩
          refine wVv (As := [.int k_486, .int 2, .int 5]) (rest := []) e_574 ⟨hx, hb, hml, hown, hts⟩ (mc_StepMachineModel_one l D tc tb z0 _ b_x b_row b_part b_mem b_mrk b_sf b_ss b_sr b_h b_r b_in b_out b_k m_on m_hc m_pc m_giv m_tak m_put m_st m_cu m_va m_sp m_un m_kc m_kn m_by m_kd m_tg m_ju q_567 k_486 2 5 (k75 hq c_489 (by decide)) (by decide)) (cwV 3 hts (goodV a_627 a_628 a_915 a_10 a_629) rfl rfl rfl hv_M_one ⟨Nat.le_of_ble_eq_true rfl, Nat.le_of_ble_eq_true rfl⟩) hP hD hS hA hZ hK hB [0, 1] rfl (by decide) (fun _ => rfl) rfl rfl rfl hl.1 rfl (Nat.le_of_ble_eq_true rfl) d_M_layShort_574 ⟨Nat.zero_le _, Nat.zero_le _⟩ (fun H locs hP hD hS => ?_)
          have hP : va_P D vwCl [(b_x, .inr (9, [.ref b_row, .ref b_part, .ref b_mem, .ref b_mrk, .ref b_sf, .ref b_ss, .ref b_sr, .int m_on, .ref b_h, .int m_hc, .ref b_r, .int m_pc, .ref b_in, .int m_giv, .int m_tak, .ref b_out, .int m_put, .int m_st, .int m_cu, .int m_va, .int m_sp, .int m_un, .ref b_k, .int m_kc, .int m_kn, .int m_by, .int m_kd, .int m_tg, .int m_ju])), (b_row, .inl (tc 0, 2400, .inl q_574))] H := hP
          have hD : va_D A [(b_x, .inr (9, [.ref b_row, .ref b_part, .ref b_mem, .ref b_mrk, .ref b_sf, .ref b_ss, .ref b_sr, .int m_on, .ref b_h, .int m_hc, .ref b_r, .int m_pc, .ref b_in, .int m_giv, .int m_tak, .ref b_out, .int m_put, .int m_st, .int m_cu, .int m_va, .int m_sp, .int m_un, .ref b_k, .int m_kc, .int m_kn, .int m_by, .int m_kd, .int m_tg, .int m_ju])), (b_row, .inl (tc 0, 2400, .inl q_574))] := hD
          refine lv_iinc (v := (k_486 + 1)) (lv' := [(1, .int (k_486 + 1)), (0, .ref b_x)]) hx hb d_M_layShort_577 hl (k := 0) rfl rfl (by decide) rfl (fun ls hl => ?_)
          refine lv_goto (tgt := 486) hx hb d_M_layShort_580 (by decide) ?_
          exact ih_486 (k_486 + 1) q_574 _ _ ls (st_nn c_489 hq) (ms_step c_489 hm_486) (by have h := hX_486; rw [mF_StepMachineModel_layShort_L486, if_neg c_489, if_neg c_497, ← e_508, mF_StepMachineModel_layShort_57, ← e_517, mF_StepMachineModel_layShort_58, ← e_530, mF_StepMachineModel_layShort_59, ← e_543, mF_StepMachineModel_layShort_60, ← e_556, mF_StepMachineModel_layShort_61, ← e_567, mF_StepMachineModel_layShort_62, ← e_574, mF_StepMachineModel_layShort_63] at h; exact h) hP hD hS (lv_sub hl [0, 1] rfl)
        · skip
          refine lv_bipush (v := 6) hx hb d_M_layShort_500 (by decide) ?_
          refine lv_goto (tgt := 507) hx hb d_M_layShort_502 (by decide) ?_
          refine lv_iconst (v := 1) hx hb d_M_layShort_507 (by decide) ?_
          obtain ⟨q_508, e_508⟩ : ∃ z, z = (mF_StepMachineModel_ends m_rowL k_486 6 1) := ⟨_, rfl⟩
          refine wVv (As := [.int k_486, .int 6, .int 1]) (rest := []) e_508 ⟨hx, hb, hml, hown, hts⟩ (mc_StepMachineModel_ends l D tc tb z0 _ b_x b_row b_part b_mem b_mrk b_sf b_ss b_sr b_h b_r b_in b_out b_k m_on m_hc m_pc m_giv m_tak m_put m_st m_cu m_va m_sp m_un m_kc m_kn m_by m_kd m_tg m_ju m_rowL k_486 6 1 (k75 hq c_489 (by decide))) (cwV 3 hts (goodV a_624 a_625 a_914 a_10 a_626) rfl rfl rfl hv_M_ends ⟨Nat.le_of_ble_eq_true rfl, Nat.le_of_ble_eq_true rfl⟩) hP hD hS hA hZ hK hB [0, 1] rfl (by decide) (fun _ => rfl) rfl rfl rfl hl.1 rfl (Nat.le_of_ble_eq_true rfl) d_M_layShort_508 ⟨Nat.zero_le _, Nat.zero_le _⟩ (fun H locs hP hD hS => ?_)
          have hP : va_P D vwCl [(b_x, .inr (9, [.ref b_row, .ref b_part, .ref b_mem, .ref b_mrk, .ref b_sf, .ref b_ss, .ref b_sr, .int m_on, .ref b_h, .int m_hc, .ref b_r, .int m_pc, .ref b_in, .int m_giv, .int m_tak, .ref b_out, .int m_put, .int m_st, .int m_cu, .int m_va, .int m_sp, .int m_un, .ref b_k, .int m_kc, .int m_kn, .int m_by, .int m_kd, .int m_tg, .int m_ju])), (b_row, .inl (tc 0, 2400, .inl q_508))] H := hP
          have hD : va_D A [(b_x, .inr (9, [.ref b_row, .ref b_part, .ref b_mem, .ref b_mrk, .ref b_sf, .ref b_ss, .ref b_sr, .int m_on, .ref b_h, .int m_hc, .ref b_r, .int m_pc, .ref b_in, .int m_giv, .int m_tak, .ref b_out, .int m_put, .int m_st, .int m_cu, .int m_va, .int m_sp, .int m_un, .ref b_k, .int m_kc, .int m_kn, .int m_by, .int m_kd, .int m_tg, .int m_ju])), (b_row, .inl (tc 0, 2400, .inl q_508))] := hD
          refine lv_aload_n hx hb d_M_layShort_511 rfl (lv_at hl 1 rfl) ?_
          refine lv_iload_n hx hb d_M_layShort_512 rfl (lv_at hl 0 rfl) ?_
          refine lv_bipush (v := 12) hx hb d_M_layShort_513 (by decide) ?_
          refine lv_bipush (v := 8) hx hb d_M_layShort_515 (by decide) ?_
          obtain ⟨q_517, e_517⟩ : ∃ z, z = (mF_StepMachineModel_one q_508 k_486 12 8) := ⟨_, rfl⟩
          refine wVv (As := [.int k_486, .int 12, .int 8]) (rest := []) e_517 ⟨hx, hb, hml, hown, hts⟩ (mc_StepMachineModel_one l D tc tb z0 _ b_x b_row b_part b_mem b_mrk b_sf b_ss b_sr b_h b_r b_in b_out b_k m_on m_hc m_pc m_giv m_tak m_put m_st m_cu m_va m_sp m_un m_kc m_kn m_by m_kd m_tg m_ju q_508 k_486 12 8 (k75 hq c_489 (by decide)) (by decide)) (cwV 3 hts (goodV a_627 a_628 a_915 a_10 a_629) rfl rfl rfl hv_M_one ⟨Nat.le_of_ble_eq_true rfl, Nat.le_of_ble_eq_true rfl⟩) hP hD hS hA hZ hK hB [0, 1] rfl (by decide) (fun _ => rfl) rfl rfl rfl hl.1 rfl (Nat.le_of_ble_eq_true rfl) d_M_layShort_517 ⟨Nat.zero_le _, Nat.zero_le _⟩ (fun H locs hP hD hS => ?_)
          have hP : va_P D vwCl [(b_x, .inr (9, [.ref b_row, .ref b_part, .ref b_mem, .ref b_mrk, .ref b_sf, .ref b_ss, .ref b_sr, .int m_on, .ref b_h, .int m_hc, .ref b_r, .int m_pc, .ref b_in, .int m_giv, .int m_tak, .ref b_out, .int m_put, .int m_st, .int m_cu, .int m_va, .int m_sp, .int m_un, .ref b_k, .int m_kc, .int m_kn, .int m_by, .int m_kd, .int m_tg, .int m_ju])), (b_row, .inl (tc 0, 2400, .inl q_517))] H := hP
          have hD : va_D A [(b_x, .inr (9, [.ref b_row, .ref b_part, .ref b_mem, .ref b_mrk, .ref b_sf, .ref b_ss, .ref b_sr, .int m_on, .ref b_h, .int m_hc, .ref b_r, .int m_pc, .ref b_in, .int m_giv, .int m_tak, .ref b_out, .int m_put, .int m_st, .int m_cu, .int m_va, .int m_sp, .int m_un, .ref b_k, .int m_kc, .int m_kn, .int m_by, .int m_kd, .int m_tg, .int m_ju])), (b_row, .inl (tc 0, 2400, .inl q_517))] := hD
          refine lv_aload_n hx hb d_M_layShort_520 rfl (lv_at hl 1 rfl) ?_
          refine lv_iload_n hx hb d_M_layShort_521 rfl (lv_at hl 0 rfl) ?_
          refine lv_bipush (v := 11) hx hb d_M_layShort_522 (by decide) ?_
          refine lv_bipush (v := 10) hx hb d_M_layShort_524 (by decide) ?_
          refine lv_sipush (v := 400) hx hb d_M_layShort_526 (by decide) ?_
          refine lv_iconst (v := 4) hx hb d_M_layShort_529 (by decide) ?_
          obtain ⟨q_530, e_530⟩ : ∃ z, z = (mF_StepMachineModel_lay q_517 k_486 11 10 400 4) := ⟨_, rfl⟩
          refine wVv (As := [.int k_486, .int 11, .int 10, .int 400, .int 4]) (rest := []) e_530 ⟨hx, hb, hml, hown, hts⟩ (mc_StepMachineModel_lay l D tc tb z0 _ b_x b_row b_part b_mem b_mrk b_sf b_ss b_sr b_h b_r b_in b_out b_k m_on m_hc m_pc m_giv m_tak m_put m_st m_cu m_va m_sp m_un m_kc m_kn m_by m_kd m_tg m_ju q_517 k_486 11 10 400 4 (k75 hq c_489 (by decide)) (by decide) (by decide)) (cwV 5 hts (goodV a_603 a_604 a_912 a_10 a_605) rfl rfl rfl hv_M_lay ⟨Nat.le_of_ble_eq_true rfl, Nat.le_of_ble_eq_true rfl⟩) hP hD hS hA hZ hK hB [0, 1] rfl (by decide) (fun _ => rfl) rfl rfl rfl hl.1 rfl (Nat.le_of_ble_eq_true rfl) d_M_layShort_530 ⟨Nat.zero_le _, Nat.zero_le _⟩ (fun H locs hP hD hS => ?_)
          have hP : va_P D vwCl [(b_x, .inr (9, [.ref b_row, .ref b_part, .ref b_mem, .ref b_mrk, .ref b_sf, .ref b_ss, .ref b_sr, .int m_on, .ref b_h, .int m_hc, .ref b_r, .int m_pc, .ref b_in, .int m_giv, .int m_tak, .ref b_out, .int m_put, .int m_st, .int m_cu, .int m_va, .int m_sp, .int m_un, .ref b_k, .int m_kc, .int m_kn, .int m_by, .int m_kd, .int m_tg, .int m_ju])), (b_row, .inl (tc 0, 2400, .inl q_530))] H := hP
          have hD : va_D A [(b_x, .inr (9, [.ref b_row, .ref b_part, .ref b_mem, .ref b_mrk, .ref b_sf, .ref b_ss, .ref b_sr, .int m_on, .ref b_h, .int m_hc, .ref b_r, .int m_pc, .ref b_in, .int m_giv, .int m_tak, .ref b_out, .int m_put, .int m_st, .int m_cu, .int m_va, .int m_sp, .int m_un, .ref b_k, .int m_kc, .int m_kn, .int m_by, .int m_kd, .int m_tg, .int m_ju])), (b_row, .inl (tc 0, 2400, .inl q_530))] := hD
          refine lv_aload_n hx hb d_M_layShort_533 rfl (lv_at hl 1 rfl) ?_
          refine lv_iload_n hx hb d_M_layShort_534 rfl (lv_at hl 0 rfl) ?_
          refine lv_bipush (v := 9) hx hb d_M_layShort_535 (by decide) ?_
          refine lv_bipush (v := 7) hx hb d_M_layShort_537 (by decide) ?_
          refine lv_sipush (v := 600) hx hb d_M_layShort_539 (by decide) ?_
          refine lv_iconst (v := 2) hx hb d_M_layShort_542 (by decide) ?_
          obtain ⟨q_543, e_543⟩ : ∃ z, z = (mF_StepMachineModel_lay q_530 k_486 9 7 600 2) := ⟨_, rfl⟩
          refine wVv (As := [.int k_486, .int 9, .int 7, .int 600, .int 2]) (rest := []) e_543 ⟨hx, hb, hml, hown, hts⟩ (mc_StepMachineModel_lay l D tc tb z0 _ b_x b_row b_part b_mem b_mrk b_sf b_ss b_sr b_h b_r b_in b_out b_k m_on m_hc m_pc m_giv m_tak m_put m_st m_cu m_va m_sp m_un m_kc m_kn m_by m_kd m_tg m_ju q_530 k_486 9 7 600 2 (k75 hq c_489 (by decide)) (by decide) (by decide)) (cwV 5 hts (goodV a_603 a_604 a_912 a_10 a_605) rfl rfl rfl hv_M_lay ⟨Nat.le_of_ble_eq_true rfl, Nat.le_of_ble_eq_true rfl⟩) hP hD hS hA hZ hK hB [0, 1] rfl (by decide) (fun _ => rfl) rfl rfl rfl hl.1 rfl (Nat.le_of_ble_eq_true rfl) d_M_layShort_543 ⟨Nat.zero_le _, Nat.zero_le _⟩ (fun H locs hP hD hS => ?_)
          have hP : va_P D vwCl [(b_x, .inr (9, [.ref b_row, .ref b_part, .ref b_mem, .ref b_mrk, .ref b_sf, .ref b_ss, .ref b_sr, .int m_on, .ref b_h, .int m_hc, .ref b_r, .int m_pc, .ref b_in, .int m_giv, .int m_tak, .ref b_out, .int m_put, .int m_st, .int m_cu, .int m_va, .int m_sp, .int m_un, .ref b_k, .int m_kc, .int m_kn, .int m_by, .int m_kd, .int m_tg, .int m_ju])), (b_row, .inl (tc 0, 2400, .inl q_543))] H := hP
          have hD : va_D A [(b_x, .inr (9, [.ref b_row, .ref b_part, .ref b_mem, .ref b_mrk, .ref b_sf, .ref b_ss, .ref b_sr, .int m_on, .ref b_h, .int m_hc, .ref b_r, .int m_pc, .ref b_in, .int m_giv, .int m_tak, .ref b_out, .int m_put, .int m_st, .int m_cu, .int m_va, .int m_sp, .int m_un, .ref b_k, .int m_kc, .int m_kn, .int m_by, .int m_kd, .int m_tg, .int m_ju])), (b_row, .inl (tc 0, 2400, .inl q_543))] := hD
          refine lv_aload_n hx hb d_M_layShort_546 rfl (lv_at hl 1 rfl) ?_
          refine lv_iload_n hx hb d_M_layShort_547 rfl (lv_at hl 0 rfl) ?_
          refine lv_bipush (v := 6) hx hb d_M_layShort_548 (by decide) ?_
          refine lv_iconst (v := 5) hx hb d_M_layShort_550 (by decide) ?_
          refine lv_sipush (v := 400) hx hb d_M_layShort_551 (by decide) ?_
          refine lv_bipush (v := 7) hx hb d_M_layShort_554 (by decide) ?_
          obtain ⟨q_556, e_556⟩ : ∃ z, z = (mF_StepMachineModel_lay q_543 k_486 6 5 400 7) := ⟨_, rfl⟩
          refine wVv (As := [.int k_486, .int 6, .int 5, .int 400, .int 7]) (rest := []) e_556 ⟨hx, hb, hml, hown, hts⟩ (mc_StepMachineModel_lay l D tc tb z0 _ b_x b_row b_part b_mem b_mrk b_sf b_ss b_sr b_h b_r b_in b_out b_k m_on m_hc m_pc m_giv m_tak m_put m_st m_cu m_va m_sp m_un m_kc m_kn m_by m_kd m_tg m_ju q_543 k_486 6 5 400 7 (k75 hq c_489 (by decide)) (by decide) (by decide)) (cwV 5 hts (goodV a_603 a_604 a_912 a_10 a_605) rfl rfl rfl hv_M_lay ⟨Nat.le_of_ble_eq_true rfl, Nat.le_of_ble_eq_true rfl⟩) hP hD hS hA hZ hK hB [0, 1] rfl (by decide) (fun _ => rfl) rfl rfl rfl hl.1 rfl (Nat.le_of_ble_eq_true rfl) d_M_layShort_556 ⟨Nat.zero_le _, Nat.zero_le _⟩ (fun H locs hP hD hS => ?_)
          have hP : va_P D vwCl [(b_x, .inr (9, [.ref b_row, .ref b_part, .ref b_mem, .ref b_mrk, .ref b_sf, .ref b_ss, .ref b_sr, .int m_on, .ref b_h, .int m_hc, .ref b_r, .int m_pc, .ref b_in, .int m_giv, .int m_tak, .ref b_out, .int m_put, .int m_st, .int m_cu, .int m_va, .int m_sp, .int m_un, .ref b_k, .int m_kc, .int m_kn, .int m_by, .int m_kd, .int m_tg, .int m_ju])), (b_row, .inl (tc 0, 2400, .inl q_556))] H := hP
          have hD : va_D A [(b_x, .inr (9, [.ref b_row, .ref b_part, .ref b_mem, .ref b_mrk, .ref b_sf, .ref b_ss, .ref b_sr, .int m_on, .ref b_h, .int m_hc, .ref b_r, .int m_pc, .ref b_in, .int m_giv, .int m_tak, .ref b_out, .int m_put, .int m_st, .int m_cu, .int m_va, .int m_sp, .int m_un, .ref b_k, .int m_kc, .int m_kn, .int m_by, .int m_kd, .int m_tg, .int m_ju])), (b_row, .inl (tc 0, 2400, .inl q_556))] := hD
          refine lv_aload_n hx hb d_M_layShort_559 rfl (lv_at hl 1 rfl) ?_
          refine lv_iload_n hx hb d_M_layShort_560 rfl (lv_at hl 0 rfl) ?_
          refine lv_iconst (v := 4) hx hb d_M_layShort_561 (by decide) ?_
          refine lv_iconst (v := 3) hx hb d_M_layShort_562 (by decide) ?_
          refine lv_sipush (v := 400) hx hb d_M_layShort_563 (by decide) ?_
          refine lv_iconst (v := 2) hx hb d_M_layShort_566 (by decide) ?_
          obtain ⟨q_567, e_567⟩ : ∃ z, z = (mF_StepMachineModel_lay q_556 k_486 4 3 400 2) := ⟨_, rfl⟩
          refine wVv (As := [.int k_486, .int 4, .int 3, .int 400, .int 2]) (rest := []) e_567 ⟨hx, hb, hml, hown, hts⟩ (mc_StepMachineModel_lay l D tc tb z0 _ b_x b_row b_part b_mem b_mrk b_sf b_ss b_sr b_h b_r b_in b_out b_k m_on m_hc m_pc m_giv m_tak m_put m_st m_cu m_va m_sp m_un m_kc m_kn m_by m_kd m_tg m_ju q_556 k_486 4 3 400 2 (k75 hq c_489 (by decide)) (by decide) (by decide)) (cwV 5 hts (goodV a_603 a_604 a_912 a_10 a_605) rfl rfl rfl hv_M_lay ⟨Nat.le_of_ble_eq_true rfl, Nat.le_of_ble_eq_true rfl⟩) hP hD hS hA hZ hK hB [0, 1] rfl (by decide) (fun _ => rfl) rfl rfl rfl hl.1 rfl (Nat.le_of_ble_eq_true rfl) d_M_layShort_567 ⟨Nat.zero_le _, Nat.zero_le _⟩ (fun H locs hP hD hS => ?_)
          have hP : va_P D vwCl [(b_x, .inr (9, [.ref b_row, .ref b_part, .ref b_mem, .ref b_mrk, .ref b_sf, .ref b_ss, .ref b_sr, .int m_on, .ref b_h, .int m_hc, .ref b_r, .int m_pc, .ref b_in, .int m_giv, .int m_tak, .ref b_out, .int m_put, .int m_st, .int m_cu, .int m_va, .int m_sp, .int m_un, .ref b_k, .int m_kc, .int m_kn, .int m_by, .int m_kd, .int m_tg, .int m_ju])), (b_row, .inl (tc 0, 2400, .inl q_567))] H := hP
          have hD : va_D A [(b_x, .inr (9, [.ref b_row, .ref b_part, .ref b_mem, .ref b_mrk, .ref b_sf, .ref b_ss, .ref b_sr, .int m_on, .ref b_h, .int m_hc, .ref b_r, .int m_pc, .ref b_in, .int m_giv, .int m_tak, .ref b_out, .int m_put, .int m_st, .int m_cu, .int m_va, .int m_sp, .int m_un, .ref b_k, .int m_kc, .int m_kn, .int m_by, .int m_kd, .int m_tg, .int m_ju])), (b_row, .inl (tc 0, 2400, .inl q_567))] := hD
          refine lv_aload_n hx hb d_M_layShort_570 rfl (lv_at hl 1 rfl) ?_
          refine lv_iload_n hx hb d_M_layShort_571 rfl (lv_at hl 0 rfl) ?_
          refine lv_iconst (v := 2) hx hb d_M_layShort_572 (by decide) ?_
          refine lv_iconst (v := 5) hx hb d_M_layShort_573 (by decide) ?_
          obtain ⟨q_574, e_574⟩ : ∃ z, z = (mF_StepMachineModel_one q_567 k_486 2 5) := ⟨_, rfl⟩
          refine wVv (As := [.int k_486, .int 2, .int 5]) (rest := []) e_574 ⟨hx, hb, hml, hown, hts⟩ (mc_StepMachineModel_one l D tc tb z0 _ b_x b_row b_part b_mem b_mrk b_sf b_ss b_sr b_h b_r b_in b_out b_k m_on m_hc m_pc m_giv m_tak m_put m_st m_cu m_va m_sp m_un m_kc m_kn m_by m_kd m_tg m_ju q_567 k_486 2 5 (k75 hq c_489 (by decide)) (by decide)) (cwV 3 hts (goodV a_627 a_628 a_915 a_10 a_629) rfl rfl rfl hv_M_one ⟨Nat.le_of_ble_eq_true rfl, Nat.le_of_ble_eq_true rfl⟩) hP hD hS hA hZ hK hB [0, 1] rfl (by decide) (fun _ => rfl) rfl rfl rfl hl.1 rfl (Nat.le_of_ble_eq_true rfl) d_M_layShort_574 ⟨Nat.zero_le _, Nat.zero_le _⟩ (fun H locs hP hD hS => ?_)
          have hP : va_P D vwCl [(b_x, .inr (9, [.ref b_row, .ref b_part, .ref b_mem, .ref b_mrk, .ref b_sf, .ref b_ss, .ref b_sr, .int m_on, .ref b_h, .int m_hc, .ref b_r, .int m_pc, .ref b_in, .int m_giv, .int m_tak, .ref b_out, .int m_put, .int m_st, .int m_cu, .int m_va, .int m_sp, .int m_un, .ref b_k, .int m_kc, .int m_kn, .int m_by, .int m_kd, .int m_tg, .int m_ju])), (b_row, .inl (tc 0, 2400, .inl q_574))] H := hP
          have hD : va_D A [(b_x, .inr (9, [.ref b_row, .ref b_part, .ref b_mem, .ref b_mrk, .ref b_sf, .ref b_ss, .ref b_sr, .int m_on, .ref b_h, .int m_hc, .ref b_r, .int m_pc, .ref b_in, .int m_giv, .int m_tak, .ref b_out, .int m_put, .int m_st, .int m_cu, .int m_va, .int m_sp, .int m_un, .ref b_k, .int m_kc, .int m_kn, .int m_by, .int m_kd, .int m_tg, .int m_ju])), (b_row, .inl (tc 0, 2400, .inl q_574))] := hD
          refine lv_iinc (v := (k_486 + 1)) (lv' := [(1, .int (k_486 + 1)), (0, .ref b_x)]) hx hb d_M_layShort_577 hl (k := 0) rfl rfl (by decide) rfl (fun ls hl => ?_)
          refine lv_goto (tgt := 486) hx hb d_M_layShort_580 (by decide) ?_
          exact ih_486 (k_486 + 1) q_574 _ _ ls (st_nn c_489 hq) (ms_step c_489 hm_486) (by have h := hX_486; rw [mF_StepMachineModel_layShort_L486, if_neg c_489, if_pos c_497, ← e_508, mF_StepMachineModel_layShort_64, ← e_517, mF_StepMachineModel_layShort_65, ← e_530, mF_StepMachineModel_layShort_66, ← e_543, mF_StepMachineModel_layShort_67, ← e_556, mF_StepMachineModel_layShort_68, ← e_567, mF_StepMachineModel_layShort_69, ← e_574, mF_StepMachineModel_layShort_70] at h; exact h) hP hD hS (lv_sub hl [0, 1] rfl)
  obtain ⟨q_486, e_486⟩ : ∃ z, z = (mF_StepMachineModel_layShort_L486 (((67 : Int32).toInt - (65 : Int32).toInt).toNat + 1) (65 : Int32) q_420.2) := ⟨_, rfl⟩
  refine loop_486 (((67 : Int32).toInt - (65 : Int32).toInt).toNat + 1) (65 : Int32) q_420.2 _ _ ls (by decide) (Nat.lt_succ_self _) ?_ hP hD hS (lv_sub hl [0, 1] rfl)
  rw [← e_486]
  intro H locs ls hq hP hD hS hl
  have hP : va_P D vwCl [(b_x, .inr (9, [.ref b_row, .ref b_part, .ref b_mem, .ref b_mrk, .ref b_sf, .ref b_ss, .ref b_sr, .int m_on, .ref b_h, .int m_hc, .ref b_r, .int m_pc, .ref b_in, .int m_giv, .int m_tak, .ref b_out, .int m_put, .int m_st, .int m_cu, .int m_va, .int m_sp, .int m_un, .ref b_k, .int m_kc, .int m_kn, .int m_by, .int m_kd, .int m_tg, .int m_ju])), (b_row, .inl (tc 0, 2400, .inl q_486.2))] H := hP
  have hD : va_D A [(b_x, .inr (9, [.ref b_row, .ref b_part, .ref b_mem, .ref b_mrk, .ref b_sf, .ref b_ss, .ref b_sr, .int m_on, .ref b_h, .int m_hc, .ref b_r, .int m_pc, .ref b_in, .int m_giv, .int m_tak, .ref b_out, .int m_put, .int m_st, .int m_cu, .int m_va, .int m_sp, .int m_un, .ref b_k, .int m_kc, .int m_kn, .int m_by, .int m_kd, .int m_tg, .int m_ju])), (b_row, .inl (tc 0, 2400, .inl q_486.2))] := hD
  have hl : lv_has ls 2 [(1, .int q_486.1), (0, .ref b_x)] := hl
  refine lv_aload_n hx hb d_M_layShort_583 rfl (lv_at hl 1 rfl) ?_
  refine lv_bipush (v := 67) hx hb d_M_layShort_584 (by decide) ?_
  refine lv_iconst (v := 0) hx hb d_M_layShort_586 (by decide) ?_
  refine lv_iconst (v := 2) hx hb d_M_layShort_587 (by decide) ?_
  obtain ⟨q_588, e_588⟩ : ∃ z, z = (mF_StepMachineModel_ends q_486.2 67 0 2) := ⟨_, rfl⟩
  refine wVv (As := [.int 67, .int 0, .int 2]) (rest := []) e_588 ⟨hx, hb, hml, hown, hts⟩ (mc_StepMachineModel_ends l D tc tb z0 _ b_x b_row b_part b_mem b_mrk b_sf b_ss b_sr b_h b_r b_in b_out b_k m_on m_hc m_pc m_giv m_tak m_put m_st m_cu m_va m_sp m_un m_kc m_kn m_by m_kd m_tg m_ju q_486.2 67 0 2 (by decide)) (cwV 3 hts (goodV a_624 a_625 a_914 a_10 a_626) rfl rfl rfl hv_M_ends ⟨Nat.le_of_ble_eq_true rfl, Nat.le_of_ble_eq_true rfl⟩) hP hD hS hA hZ hK hB [0, 1] rfl (by decide) (fun _ => rfl) rfl rfl rfl hl.1 rfl (Nat.le_of_ble_eq_true rfl) d_M_layShort_588 ⟨Nat.zero_le _, Nat.zero_le _⟩ (fun H locs hP hD hS => ?_)
  have hP : va_P D vwCl [(b_x, .inr (9, [.ref b_row, .ref b_part, .ref b_mem, .ref b_mrk, .ref b_sf, .ref b_ss, .ref b_sr, .int m_on, .ref b_h, .int m_hc, .ref b_r, .int m_pc, .ref b_in, .int m_giv, .int m_tak, .ref b_out, .int m_put, .int m_st, .int m_cu, .int m_va, .int m_sp, .int m_un, .ref b_k, .int m_kc, .int m_kn, .int m_by, .int m_kd, .int m_tg, .int m_ju])), (b_row, .inl (tc 0, 2400, .inl q_588))] H := hP
  have hD : va_D A [(b_x, .inr (9, [.ref b_row, .ref b_part, .ref b_mem, .ref b_mrk, .ref b_sf, .ref b_ss, .ref b_sr, .int m_on, .ref b_h, .int m_hc, .ref b_r, .int m_pc, .ref b_in, .int m_giv, .int m_tak, .ref b_out, .int m_put, .int m_st, .int m_cu, .int m_va, .int m_sp, .int m_un, .ref b_k, .int m_kc, .int m_kn, .int m_by, .int m_kd, .int m_tg, .int m_ju])), (b_row, .inl (tc 0, 2400, .inl q_588))] := hD
  refine lv_aload_n hx hb d_M_layShort_591 rfl (lv_at hl 1 rfl) ?_
  refine lv_bipush (v := 67) hx hb d_M_layShort_592 (by decide) ?_
  refine lv_bipush (v := 11) hx hb d_M_layShort_594 (by decide) ?_
  refine lv_bipush (v := 7) hx hb d_M_layShort_596 (by decide) ?_
  refine lv_bipush (v := 100) hx hb d_M_layShort_598 (by decide) ?_
  refine lv_iconst (v := 4) hx hb d_M_layShort_600 (by decide) ?_
  obtain ⟨q_601, e_601⟩ : ∃ z, z = (mF_StepMachineModel_lay q_588 67 11 7 100 4) := ⟨_, rfl⟩
  refine wVv (As := [.int 67, .int 11, .int 7, .int 100, .int 4]) (rest := []) e_601 ⟨hx, hb, hml, hown, hts⟩ (mc_StepMachineModel_lay l D tc tb z0 _ b_x b_row b_part b_mem b_mrk b_sf b_ss b_sr b_h b_r b_in b_out b_k m_on m_hc m_pc m_giv m_tak m_put m_st m_cu m_va m_sp m_un m_kc m_kn m_by m_kd m_tg m_ju q_588 67 11 7 100 4 (by decide) (by decide) (by decide)) (cwV 5 hts (goodV a_603 a_604 a_912 a_10 a_605) rfl rfl rfl hv_M_lay ⟨Nat.le_of_ble_eq_true rfl, Nat.le_of_ble_eq_true rfl⟩) hP hD hS hA hZ hK hB [0, 1] rfl (by decide) (fun _ => rfl) rfl rfl rfl hl.1 rfl (Nat.le_of_ble_eq_true rfl) d_M_layShort_601 ⟨Nat.zero_le _, Nat.zero_le _⟩ (fun H locs hP hD hS => ?_)
  have hP : va_P D vwCl [(b_x, .inr (9, [.ref b_row, .ref b_part, .ref b_mem, .ref b_mrk, .ref b_sf, .ref b_ss, .ref b_sr, .int m_on, .ref b_h, .int m_hc, .ref b_r, .int m_pc, .ref b_in, .int m_giv, .int m_tak, .ref b_out, .int m_put, .int m_st, .int m_cu, .int m_va, .int m_sp, .int m_un, .ref b_k, .int m_kc, .int m_kn, .int m_by, .int m_kd, .int m_tg, .int m_ju])), (b_row, .inl (tc 0, 2400, .inl q_601))] H := hP
  have hD : va_D A [(b_x, .inr (9, [.ref b_row, .ref b_part, .ref b_mem, .ref b_mrk, .ref b_sf, .ref b_ss, .ref b_sr, .int m_on, .ref b_h, .int m_hc, .ref b_r, .int m_pc, .ref b_in, .int m_giv, .int m_tak, .ref b_out, .int m_put, .int m_st, .int m_cu, .int m_va, .int m_sp, .int m_un, .ref b_k, .int m_kc, .int m_kn, .int m_by, .int m_kd, .int m_tg, .int m_ju])), (b_row, .inl (tc 0, 2400, .inl q_601))] := hD
  refine lv_aload_n hx hb d_M_layShort_604 rfl (lv_at hl 1 rfl) ?_
  refine lv_bipush (v := 67) hx hb d_M_layShort_605 (by decide) ?_
  refine lv_bipush (v := 6) hx hb d_M_layShort_607 (by decide) ?_
  refine lv_iconst (v := 2) hx hb d_M_layShort_609 (by decide) ?_
  refine lv_sipush (v := 400) hx hb d_M_layShort_610 (by decide) ?_
  refine lv_iconst (v := 4) hx hb d_M_layShort_613 (by decide) ?_
  obtain ⟨q_614, e_614⟩ : ∃ z, z = (mF_StepMachineModel_lay q_601 67 6 2 400 4) := ⟨_, rfl⟩
  refine wVv (As := [.int 67, .int 6, .int 2, .int 400, .int 4]) (rest := []) e_614 ⟨hx, hb, hml, hown, hts⟩ (mc_StepMachineModel_lay l D tc tb z0 _ b_x b_row b_part b_mem b_mrk b_sf b_ss b_sr b_h b_r b_in b_out b_k m_on m_hc m_pc m_giv m_tak m_put m_st m_cu m_va m_sp m_un m_kc m_kn m_by m_kd m_tg m_ju q_601 67 6 2 400 4 (by decide) (by decide) (by decide)) (cwV 5 hts (goodV a_603 a_604 a_912 a_10 a_605) rfl rfl rfl hv_M_lay ⟨Nat.le_of_ble_eq_true rfl, Nat.le_of_ble_eq_true rfl⟩) hP hD hS hA hZ hK hB [0, 1] rfl (by decide) (fun _ => rfl) rfl rfl rfl hl.1 rfl (Nat.le_of_ble_eq_true rfl) d_M_layShort_614 ⟨Nat.zero_le _, Nat.zero_le _⟩ (fun H locs hP hD hS => ?_)
  have hP : va_P D vwCl [(b_x, .inr (9, [.ref b_row, .ref b_part, .ref b_mem, .ref b_mrk, .ref b_sf, .ref b_ss, .ref b_sr, .int m_on, .ref b_h, .int m_hc, .ref b_r, .int m_pc, .ref b_in, .int m_giv, .int m_tak, .ref b_out, .int m_put, .int m_st, .int m_cu, .int m_va, .int m_sp, .int m_un, .ref b_k, .int m_kc, .int m_kn, .int m_by, .int m_kd, .int m_tg, .int m_ju])), (b_row, .inl (tc 0, 2400, .inl q_614))] H := hP
  have hD : va_D A [(b_x, .inr (9, [.ref b_row, .ref b_part, .ref b_mem, .ref b_mrk, .ref b_sf, .ref b_ss, .ref b_sr, .int m_on, .ref b_h, .int m_hc, .ref b_r, .int m_pc, .ref b_in, .int m_giv, .int m_tak, .ref b_out, .int m_put, .int m_st, .int m_cu, .int m_va, .int m_sp, .int m_un, .ref b_k, .int m_kc, .int m_kn, .int m_by, .int m_kd, .int m_tg, .int m_ju])), (b_row, .inl (tc 0, 2400, .inl q_614))] := hD
  refine lv_aload_n hx hb d_M_layShort_617 rfl (lv_at hl 1 rfl) ?_
  refine lv_bipush (v := 68) hx hb d_M_layShort_618 (by decide) ?_
  refine lv_iconst (v := 2) hx hb d_M_layShort_620 (by decide) ?_
  refine lv_iconst (v := 2) hx hb d_M_layShort_621 (by decide) ?_
  obtain ⟨q_622, e_622⟩ : ∃ z, z = (mF_StepMachineModel_ends q_614 68 2 2) := ⟨_, rfl⟩
  refine wVv (As := [.int 68, .int 2, .int 2]) (rest := []) e_622 ⟨hx, hb, hml, hown, hts⟩ (mc_StepMachineModel_ends l D tc tb z0 _ b_x b_row b_part b_mem b_mrk b_sf b_ss b_sr b_h b_r b_in b_out b_k m_on m_hc m_pc m_giv m_tak m_put m_st m_cu m_va m_sp m_un m_kc m_kn m_by m_kd m_tg m_ju q_614 68 2 2 (by decide)) (cwV 3 hts (goodV a_624 a_625 a_914 a_10 a_626) rfl rfl rfl hv_M_ends ⟨Nat.le_of_ble_eq_true rfl, Nat.le_of_ble_eq_true rfl⟩) hP hD hS hA hZ hK hB [0, 1] rfl (by decide) (fun _ => rfl) rfl rfl rfl hl.1 rfl (Nat.le_of_ble_eq_true rfl) d_M_layShort_622 ⟨Nat.zero_le _, Nat.zero_le _⟩ (fun H locs hP hD hS => ?_)
  have hP : va_P D vwCl [(b_x, .inr (9, [.ref b_row, .ref b_part, .ref b_mem, .ref b_mrk, .ref b_sf, .ref b_ss, .ref b_sr, .int m_on, .ref b_h, .int m_hc, .ref b_r, .int m_pc, .ref b_in, .int m_giv, .int m_tak, .ref b_out, .int m_put, .int m_st, .int m_cu, .int m_va, .int m_sp, .int m_un, .ref b_k, .int m_kc, .int m_kn, .int m_by, .int m_kd, .int m_tg, .int m_ju])), (b_row, .inl (tc 0, 2400, .inl q_622))] H := hP
  have hD : va_D A [(b_x, .inr (9, [.ref b_row, .ref b_part, .ref b_mem, .ref b_mrk, .ref b_sf, .ref b_ss, .ref b_sr, .int m_on, .ref b_h, .int m_hc, .ref b_r, .int m_pc, .ref b_in, .int m_giv, .int m_tak, .ref b_out, .int m_put, .int m_st, .int m_cu, .int m_va, .int m_sp, .int m_un, .ref b_k, .int m_kc, .int m_kn, .int m_by, .int m_kd, .int m_tg, .int m_ju])), (b_row, .inl (tc 0, 2400, .inl q_622))] := hD
  refine lv_aload_n hx hb d_M_layShort_625 rfl (lv_at hl 1 rfl) ?_
  refine lv_bipush (v := 68) hx hb d_M_layShort_626 (by decide) ?_
  refine lv_bipush (v := 12) hx hb d_M_layShort_628 (by decide) ?_
  refine lv_iconst (v := 5) hx hb d_M_layShort_630 (by decide) ?_
  obtain ⟨q_631, e_631⟩ : ∃ z, z = (mF_StepMachineModel_one q_622 68 12 5) := ⟨_, rfl⟩
  refine wVv (As := [.int 68, .int 12, .int 5]) (rest := []) e_631 ⟨hx, hb, hml, hown, hts⟩ (mc_StepMachineModel_one l D tc tb z0 _ b_x b_row b_part b_mem b_mrk b_sf b_ss b_sr b_h b_r b_in b_out b_k m_on m_hc m_pc m_giv m_tak m_put m_st m_cu m_va m_sp m_un m_kc m_kn m_by m_kd m_tg m_ju q_622 68 12 5 (by decide) (by decide)) (cwV 3 hts (goodV a_627 a_628 a_915 a_10 a_629) rfl rfl rfl hv_M_one ⟨Nat.le_of_ble_eq_true rfl, Nat.le_of_ble_eq_true rfl⟩) hP hD hS hA hZ hK hB [0, 1] rfl (by decide) (fun _ => rfl) rfl rfl rfl hl.1 rfl (Nat.le_of_ble_eq_true rfl) d_M_layShort_631 ⟨Nat.zero_le _, Nat.zero_le _⟩ (fun H locs hP hD hS => ?_)
  have hP : va_P D vwCl [(b_x, .inr (9, [.ref b_row, .ref b_part, .ref b_mem, .ref b_mrk, .ref b_sf, .ref b_ss, .ref b_sr, .int m_on, .ref b_h, .int m_hc, .ref b_r, .int m_pc, .ref b_in, .int m_giv, .int m_tak, .ref b_out, .int m_put, .int m_st, .int m_cu, .int m_va, .int m_sp, .int m_un, .ref b_k, .int m_kc, .int m_kn, .int m_by, .int m_kd, .int m_tg, .int m_ju])), (b_row, .inl (tc 0, 2400, .inl q_631))] H := hP
  have hD : va_D A [(b_x, .inr (9, [.ref b_row, .ref b_part, .ref b_mem, .ref b_mrk, .ref b_sf, .ref b_ss, .ref b_sr, .int m_on, .ref b_h, .int m_hc, .ref b_r, .int m_pc, .ref b_in, .int m_giv, .int m_tak, .ref b_out, .int m_put, .int m_st, .int m_cu, .int m_va, .int m_sp, .int m_un, .ref b_k, .int m_kc, .int m_kn, .int m_by, .int m_kd, .int m_tg, .int m_ju])), (b_row, .inl (tc 0, 2400, .inl q_631))] := hD
  refine lv_aload_n hx hb d_M_layShort_634 rfl (lv_at hl 1 rfl) ?_
  refine lv_bipush (v := 68) hx hb d_M_layShort_635 (by decide) ?_
  refine lv_bipush (v := 11) hx hb d_M_layShort_637 (by decide) ?_
  refine lv_bipush (v := 7) hx hb d_M_layShort_639 (by decide) ?_
  refine lv_bipush (v := 100) hx hb d_M_layShort_641 (by decide) ?_
  refine lv_iconst (v := 4) hx hb d_M_layShort_643 (by decide) ?_
  obtain ⟨q_644, e_644⟩ : ∃ z, z = (mF_StepMachineModel_lay q_631 68 11 7 100 4) := ⟨_, rfl⟩
  refine wVv (As := [.int 68, .int 11, .int 7, .int 100, .int 4]) (rest := []) e_644 ⟨hx, hb, hml, hown, hts⟩ (mc_StepMachineModel_lay l D tc tb z0 _ b_x b_row b_part b_mem b_mrk b_sf b_ss b_sr b_h b_r b_in b_out b_k m_on m_hc m_pc m_giv m_tak m_put m_st m_cu m_va m_sp m_un m_kc m_kn m_by m_kd m_tg m_ju q_631 68 11 7 100 4 (by decide) (by decide) (by decide)) (cwV 5 hts (goodV a_603 a_604 a_912 a_10 a_605) rfl rfl rfl hv_M_lay ⟨Nat.le_of_ble_eq_true rfl, Nat.le_of_ble_eq_true rfl⟩) hP hD hS hA hZ hK hB [0, 1] rfl (by decide) (fun _ => rfl) rfl rfl rfl hl.1 rfl (Nat.le_of_ble_eq_true rfl) d_M_layShort_644 ⟨Nat.zero_le _, Nat.zero_le _⟩ (fun H locs hP hD hS => ?_)
  have hP : va_P D vwCl [(b_x, .inr (9, [.ref b_row, .ref b_part, .ref b_mem, .ref b_mrk, .ref b_sf, .ref b_ss, .ref b_sr, .int m_on, .ref b_h, .int m_hc, .ref b_r, .int m_pc, .ref b_in, .int m_giv, .int m_tak, .ref b_out, .int m_put, .int m_st, .int m_cu, .int m_va, .int m_sp, .int m_un, .ref b_k, .int m_kc, .int m_kn, .int m_by, .int m_kd, .int m_tg, .int m_ju])), (b_row, .inl (tc 0, 2400, .inl q_644))] H := hP
  have hD : va_D A [(b_x, .inr (9, [.ref b_row, .ref b_part, .ref b_mem, .ref b_mrk, .ref b_sf, .ref b_ss, .ref b_sr, .int m_on, .ref b_h, .int m_hc, .ref b_r, .int m_pc, .ref b_in, .int m_giv, .int m_tak, .ref b_out, .int m_put, .int m_st, .int m_cu, .int m_va, .int m_sp, .int m_un, .ref b_k, .int m_kc, .int m_kn, .int m_by, .int m_kd, .int m_tg, .int m_ju])), (b_row, .inl (tc 0, 2400, .inl q_644))] := hD
  refine lv_aload_n hx hb d_M_layShort_647 rfl (lv_at hl 1 rfl) ?_
  refine lv_bipush (v := 68) hx hb d_M_layShort_648 (by decide) ?_
  refine lv_bipush (v := 6) hx hb d_M_layShort_650 (by decide) ?_
  refine lv_iconst (v := 4) hx hb d_M_layShort_652 (by decide) ?_
  refine lv_sipush (v := 400) hx hb d_M_layShort_653 (by decide) ?_
  refine lv_iconst (v := 4) hx hb d_M_layShort_656 (by decide) ?_
  obtain ⟨q_657, e_657⟩ : ∃ z, z = (mF_StepMachineModel_lay q_644 68 6 4 400 4) := ⟨_, rfl⟩
  refine wVv (As := [.int 68, .int 6, .int 4, .int 400, .int 4]) (rest := []) e_657 ⟨hx, hb, hml, hown, hts⟩ (mc_StepMachineModel_lay l D tc tb z0 _ b_x b_row b_part b_mem b_mrk b_sf b_ss b_sr b_h b_r b_in b_out b_k m_on m_hc m_pc m_giv m_tak m_put m_st m_cu m_va m_sp m_un m_kc m_kn m_by m_kd m_tg m_ju q_644 68 6 4 400 4 (by decide) (by decide) (by decide)) (cwV 5 hts (goodV a_603 a_604 a_912 a_10 a_605) rfl rfl rfl hv_M_lay ⟨Nat.le_of_ble_eq_true rfl, Nat.le_of_ble_eq_true rfl⟩) hP hD hS hA hZ hK hB [0, 1] rfl (by decide) (fun _ => rfl) rfl rfl rfl hl.1 rfl (Nat.le_of_ble_eq_true rfl) d_M_layShort_657 ⟨Nat.zero_le _, Nat.zero_le _⟩ (fun H locs hP hD hS => ?_)
  have hP : va_P D vwCl [(b_x, .inr (9, [.ref b_row, .ref b_part, .ref b_mem, .ref b_mrk, .ref b_sf, .ref b_ss, .ref b_sr, .int m_on, .ref b_h, .int m_hc, .ref b_r, .int m_pc, .ref b_in, .int m_giv, .int m_tak, .ref b_out, .int m_put, .int m_st, .int m_cu, .int m_va, .int m_sp, .int m_un, .ref b_k, .int m_kc, .int m_kn, .int m_by, .int m_kd, .int m_tg, .int m_ju])), (b_row, .inl (tc 0, 2400, .inl q_657))] H := hP
  have hD : va_D A [(b_x, .inr (9, [.ref b_row, .ref b_part, .ref b_mem, .ref b_mrk, .ref b_sf, .ref b_ss, .ref b_sr, .int m_on, .ref b_h, .int m_hc, .ref b_r, .int m_pc, .ref b_in, .int m_giv, .int m_tak, .ref b_out, .int m_put, .int m_st, .int m_cu, .int m_va, .int m_sp, .int m_un, .ref b_k, .int m_kc, .int m_kn, .int m_by, .int m_kd, .int m_tg, .int m_ju])), (b_row, .inl (tc 0, 2400, .inl q_657))] := hD
  refine lv_aload_n hx hb d_M_layShort_660 rfl (lv_at hl 1 rfl) ?_
  refine lv_bipush (v := 68) hx hb d_M_layShort_661 (by decide) ?_
  refine lv_iconst (v := 3) hx hb d_M_layShort_663 (by decide) ?_
  refine lv_iconst (v := 2) hx hb d_M_layShort_664 (by decide) ?_
  refine lv_sipush (v := 400) hx hb d_M_layShort_665 (by decide) ?_
  refine lv_bipush (v := 7) hx hb d_M_layShort_668 (by decide) ?_
  obtain ⟨q_670, e_670⟩ : ∃ z, z = (mF_StepMachineModel_lay q_657 68 3 2 400 7) := ⟨_, rfl⟩
  refine wVv (As := [.int 68, .int 3, .int 2, .int 400, .int 7]) (rest := []) e_670 ⟨hx, hb, hml, hown, hts⟩ (mc_StepMachineModel_lay l D tc tb z0 _ b_x b_row b_part b_mem b_mrk b_sf b_ss b_sr b_h b_r b_in b_out b_k m_on m_hc m_pc m_giv m_tak m_put m_st m_cu m_va m_sp m_un m_kc m_kn m_by m_kd m_tg m_ju q_657 68 3 2 400 7 (by decide) (by decide) (by decide)) (cwV 5 hts (goodV a_603 a_604 a_912 a_10 a_605) rfl rfl rfl hv_M_lay ⟨Nat.le_of_ble_eq_true rfl, Nat.le_of_ble_eq_true rfl⟩) hP hD hS hA hZ hK hB [0, 1] rfl (by decide) (fun _ => rfl) rfl rfl rfl hl.1 rfl (Nat.le_of_ble_eq_true rfl) d_M_layShort_670 ⟨Nat.zero_le _, Nat.zero_le _⟩ (fun H locs hP hD hS => ?_)
  have hP : va_P D vwCl [(b_x, .inr (9, [.ref b_row, .ref b_part, .ref b_mem, .ref b_mrk, .ref b_sf, .ref b_ss, .ref b_sr, .int m_on, .ref b_h, .int m_hc, .ref b_r, .int m_pc, .ref b_in, .int m_giv, .int m_tak, .ref b_out, .int m_put, .int m_st, .int m_cu, .int m_va, .int m_sp, .int m_un, .ref b_k, .int m_kc, .int m_kn, .int m_by, .int m_kd, .int m_tg, .int m_ju])), (b_row, .inl (tc 0, 2400, .inl q_670))] H := hP
  have hD : va_D A [(b_x, .inr (9, [.ref b_row, .ref b_part, .ref b_mem, .ref b_mrk, .ref b_sf, .ref b_ss, .ref b_sr, .int m_on, .ref b_h, .int m_hc, .ref b_r, .int m_pc, .ref b_in, .int m_giv, .int m_tak, .ref b_out, .int m_put, .int m_st, .int m_cu, .int m_va, .int m_sp, .int m_un, .ref b_k, .int m_kc, .int m_kn, .int m_by, .int m_kd, .int m_tg, .int m_ju])), (b_row, .inl (tc 0, 2400, .inl q_670))] := hD
  refine lv_bipush (v := 69) hx hb d_M_layShort_673 (by decide) ?_
  refine lv_istore_n (lv' := [(1, .int 69), (0, .ref b_x)]) hx hb d_M_layShort_675 rfl hl (by decide) rfl (fun ls hl => ?_)
  have loop_676 : ∀ (n_676 : Nat) (k_676 : Int32) (m_rowL : Nat → Int32) (H : Heap) (locs : List Loc) (ls : Array Slot), (0 ≤ k_676.toInt) → ((74 : Int32).toInt - k_676.toInt).toNat < n_676 → (∀ (H : Heap) (locs : List Loc) (ls : Array Slot), (0 ≤ (mF_StepMachineModel_layShort_L676 n_676 k_676 m_rowL).1.toInt) → va_P D vwCl [(b_x, .inr (9, [.ref b_row, .ref b_part, .ref b_mem, .ref b_mrk, .ref b_sf, .ref b_ss, .ref b_sr, .int m_on, .ref b_h, .int m_hc, .ref b_r, .int m_pc, .ref b_in, .int m_giv, .int m_tak, .ref b_out, .int m_put, .int m_st, .int m_cu, .int m_va, .int m_sp, .int m_un, .ref b_k, .int m_kc, .int m_kn, .int m_by, .int m_kd, .int m_tg, .int m_ju])), (b_row, .inl (tc 0, 2400, .inl ((mF_StepMachineModel_layShort_L676 n_676 k_676 m_rowL).2)))] H → va_D A [(b_x, .inr (9, [.ref b_row, .ref b_part, .ref b_mem, .ref b_mrk, .ref b_sf, .ref b_ss, .ref b_sr, .int m_on, .ref b_h, .int m_hc, .ref b_r, .int m_pc, .ref b_in, .int m_giv, .int m_tak, .ref b_out, .int m_put, .int m_st, .int m_cu, .int m_va, .int m_sp, .int m_un, .ref b_k, .int m_kc, .int m_kn, .int m_by, .int m_kd, .int m_tg, .int m_ju])), (b_row, .inl (tc 0, 2400, .inl ((mF_StepMachineModel_layShort_L676 n_676 k_676 m_rowL).2)))] → va_S A s.heap H locs → lv_has ls 2 [(1, .int ((mF_StepMachineModel_layShort_L676 n_676 k_676 m_rowL).1)), (0, .ref b_x)] → W p l e (headSpec (wM y_M_layShort b_M_layShort 2 none) ({ frames := 3, cells := 0, slots := 0, locals := 70 })).room s m ([.ref b_x]).toArray below meth c H locs 0 0 (MQ below (va_Qv (fun u : (Nat → Int32) => u = (mF_StepMachineModel_layShort m_row)) (Bw D tc A (fun u => [(b_x, .inr (9, [.ref b_row, .ref b_part, .ref b_mem, .ref b_mrk, .ref b_sf, .ref b_ss, .ref b_sr, .int m_on, .ref b_h, .int m_hc, .ref b_r, .int m_pc, .ref b_in, .int m_giv, .int m_tak, .ref b_out, .int m_put, .int m_st, .int m_cu, .int m_va, .int m_sp, .int m_un, .ref b_k, .int m_kc, .int m_kn, .int m_by, .int m_kd, .int m_tg, .int m_ju])), (b_row, .inl (tc 0, 2400, .inl u))])) A) ([.ref b_x]).toArray s 0 0 A) (F0 m 787 ls [])) → va_P D vwCl [(b_x, .inr (9, [.ref b_row, .ref b_part, .ref b_mem, .ref b_mrk, .ref b_sf, .ref b_ss, .ref b_sr, .int m_on, .ref b_h, .int m_hc, .ref b_r, .int m_pc, .ref b_in, .int m_giv, .int m_tak, .ref b_out, .int m_put, .int m_st, .int m_cu, .int m_va, .int m_sp, .int m_un, .ref b_k, .int m_kc, .int m_kn, .int m_by, .int m_kd, .int m_tg, .int m_ju])), (b_row, .inl (tc 0, 2400, .inl m_rowL))] H → va_D A [(b_x, .inr (9, [.ref b_row, .ref b_part, .ref b_mem, .ref b_mrk, .ref b_sf, .ref b_ss, .ref b_sr, .int m_on, .ref b_h, .int m_hc, .ref b_r, .int m_pc, .ref b_in, .int m_giv, .int m_tak, .ref b_out, .int m_put, .int m_st, .int m_cu, .int m_va, .int m_sp, .int m_un, .ref b_k, .int m_kc, .int m_kn, .int m_by, .int m_kd, .int m_tg, .int m_ju])), (b_row, .inl (tc 0, 2400, .inl m_rowL))] → va_S A s.heap H locs → lv_has ls 2 [(1, .int k_676), (0, .ref b_x)] → W p l e (headSpec (wM y_M_layShort b_M_layShort 2 none) ({ frames := 3, cells := 0, slots := 0, locals := 70 })).room s m ([.ref b_x]).toArray below meth c H locs 0 0 (MQ below (va_Qv (fun u : (Nat → Int32) => u = (mF_StepMachineModel_layShort m_row)) (Bw D tc A (fun u => [(b_x, .inr (9, [.ref b_row, .ref b_part, .ref b_mem, .ref b_mrk, .ref b_sf, .ref b_ss, .ref b_sr, .int m_on, .ref b_h, .int m_hc, .ref b_r, .int m_pc, .ref b_in, .int m_giv, .int m_tak, .ref b_out, .int m_put, .int m_st, .int m_cu, .int m_va, .int m_sp, .int m_un, .ref b_k, .int m_kc, .int m_kn, .int m_by, .int m_kd, .int m_tg, .int m_ju])), (b_row, .inl (tc 0, 2400, .inl u))])) A) ([.ref b_x]).toArray s 0 0 A) (F0 m 676 ls []) := by
    intro n_676
    induction n_676 with
    | zero =>
      intro k_676 m_rowL H locs ls hq hm
      exact absurd hm (Nat.not_lt_zero _)
    | succ n_676 ih_676 =>
      intro k_676 m_rowL H locs ls hq hm_676 hX_676 hP hD hS hl
      refine lv_iload_n hx hb d_M_layShort_676 rfl (lv_at hl 0 rfl) ?_
      refine lv_bipush (v := 74) hx hb d_M_layShort_677 (by decide) ?_
      refine lv_icmp_ge (tgt := 787) hx hb d_M_layShort_679 (by decide) (fun c_679 => ?_) (fun c_679 => ?_)
      · skip
        rw [mF_StepMachineModel_layShort_L676, if_pos c_679] at hX_676
        exact hX_676 _ _ ls hq hP hD hS (lv_sub hl [0, 1] rfl)
      · skip
        refine lv_aload_n hx hb d_M_layShort_682 rfl (lv_at hl 1 rfl) ?_
        refine lv_iload_n hx hb d_M_layShort_683 rfl (lv_at hl 0 rfl) ?_
        refine lv_iconst (v := 4) hx hb d_M_layShort_684 (by decide) ?_
        refine lv_iconst (v := 2) hx hb d_M_layShort_685 (by decide) ?_
        obtain ⟨q_686, e_686⟩ : ∃ z, z = (mF_StepMachineModel_ends m_rowL k_676 4 2) := ⟨_, rfl⟩
        refine wVv (As := [.int k_676, .int 4, .int 2]) (rest := []) e_686 ⟨hx, hb, hml, hown, hts⟩ (mc_StepMachineModel_ends l D tc tb z0 _ b_x b_row b_part b_mem b_mrk b_sf b_ss b_sr b_h b_r b_in b_out b_k m_on m_hc m_pc m_giv m_tak m_put m_st m_cu m_va m_sp m_un m_kc m_kn m_by m_kd m_tg m_ju m_rowL k_676 4 2 (k75 hq c_679 (by decide))) (cwV 3 hts (goodV a_624 a_625 a_914 a_10 a_626) rfl rfl rfl hv_M_ends ⟨Nat.le_of_ble_eq_true rfl, Nat.le_of_ble_eq_true rfl⟩) hP hD hS hA hZ hK hB [0, 1] rfl (by decide) (fun _ => rfl) rfl rfl rfl hl.1 rfl (Nat.le_of_ble_eq_true rfl) d_M_layShort_686 ⟨Nat.zero_le _, Nat.zero_le _⟩ (fun H locs hP hD hS => ?_)
        have hP : va_P D vwCl [(b_x, .inr (9, [.ref b_row, .ref b_part, .ref b_mem, .ref b_mrk, .ref b_sf, .ref b_ss, .ref b_sr, .int m_on, .ref b_h, .int m_hc, .ref b_r, .int m_pc, .ref b_in, .int m_giv, .int m_tak, .ref b_out, .int m_put, .int m_st, .int m_cu, .int m_va, .int m_sp, .int m_un, .ref b_k, .int m_kc, .int m_kn, .int m_by, .int m_kd, .int m_tg, .int m_ju])), (b_row, .inl (tc 0, 2400, .inl q_686))] H := hP
        have hD : va_D A [(b_x, .inr (9, [.ref b_row, .ref b_part, .ref b_mem, .ref b_mrk, .ref b_sf, .ref b_ss, .ref b_sr, .int m_on, .ref b_h, .int m_hc, .ref b_r, .int m_pc, .ref b_in, .int m_giv, .int m_tak, .ref b_out, .int m_put, .int m_st, .int m_cu, .int m_va, .int m_sp, .int m_un, .ref b_k, .int m_kc, .int m_kn, .int m_by, .int m_kd, .int m_tg, .int m_ju])), (b_row, .inl (tc 0, 2400, .inl q_686))] := hD
        refine lv_aload_n hx hb d_M_layShort_689 rfl (lv_at hl 1 rfl) ?_
        refine lv_iload_n hx hb d_M_layShort_690 rfl (lv_at hl 0 rfl) ?_
        refine lv_bipush (v := 12) hx hb d_M_layShort_691 (by decide) ?_
        refine lv_iconst (v := 1) hx hb d_M_layShort_693 (by decide) ?_
        refine lv_iload_n hx hb d_M_layShort_694 rfl (lv_at hl 0 rfl) ?_
        refine lv_bipush (v := 70) hx hb d_M_layShort_695 (by decide) ?_
        refine lv_icmp_le (tgt := 704) hx hb d_M_layShort_697 (by decide) (fun c_697 => ?_) (fun c_697 => ?_)
        · skip
          refine lv_iconst (v := 0) hx hb d_M_layShort_704 (by decide) ?_
          obtain ⟨q_705, e_705⟩ : ∃ z, z = (mF_StepMachineModel_fix q_686 k_676 12 1 0) := ⟨_, rfl⟩
          refine wVv (As := [.int k_676, .int 12, .int 1, .int 0]) (rest := []) e_705 ⟨hx, hb, hml, hown, hts⟩ (mc_StepMachineModel_fix l D tc tb z0 _ b_x b_row b_part b_mem b_mrk b_sf b_ss b_sr b_h b_r b_in b_out b_k m_on m_hc m_pc m_giv m_tak m_put m_st m_cu m_va m_sp m_un m_kc m_kn m_by m_kd m_tg m_ju q_686 k_676 12 1 0 (k75 hq c_679 (by decide)) (by decide) (by decide)) (cwV 4 hts (goodV a_597 a_598 a_911 a_10 a_599) rfl rfl rfl hv_M_fix ⟨Nat.le_of_ble_eq_true rfl, Nat.le_of_ble_eq_true rfl⟩) hP hD hS hA hZ hK hB [0, 1] rfl (by decide) (fun _ => rfl) rfl rfl rfl hl.1 rfl (Nat.le_of_ble_eq_true rfl) d_M_layShort_705 ⟨Nat.zero_le _, Nat.zero_le _⟩ (fun H locs hP hD hS => ?_)
          have hP : va_P D vwCl [(b_x, .inr (9, [.ref b_row, .ref b_part, .ref b_mem, .ref b_mrk, .ref b_sf, .ref b_ss, .ref b_sr, .int m_on, .ref b_h, .int m_hc, .ref b_r, .int m_pc, .ref b_in, .int m_giv, .int m_tak, .ref b_out, .int m_put, .int m_st, .int m_cu, .int m_va, .int m_sp, .int m_un, .ref b_k, .int m_kc, .int m_kn, .int m_by, .int m_kd, .int m_tg, .int m_ju])), (b_row, .inl (tc 0, 2400, .inl q_705))] H := hP
          have hD : va_D A [(b_x, .inr (9, [.ref b_row, .ref b_part, .ref b_mem, .ref b_mrk, .ref b_sf, .ref b_ss, .ref b_sr, .int m_on, .ref b_h, .int m_hc, .ref b_r, .int m_pc, .ref b_in, .int m_giv, .int m_tak, .ref b_out, .int m_put, .int m_st, .int m_cu, .int m_va, .int m_sp, .int m_un, .ref b_k, .int m_kc, .int m_kn, .int m_by, .int m_kd, .int m_tg, .int m_ju])), (b_row, .inl (tc 0, 2400, .inl q_705))] := hD
          refine lv_iload_n hx hb d_M_layShort_708 rfl (lv_at hl 0 rfl) ?_
          refine lv_bipush (v := 69) hx hb d_M_layShort_709 (by decide) ?_
          refine lv_icmp_eq (tgt := 720) hx hb d_M_layShort_711 (by decide) (fun c_711 => ?_) (fun c_711 => ?_)
          · skip
            refine lv_aload_n hx hb d_M_layShort_720 rfl (lv_at hl 1 rfl) ?_
            refine lv_iload_n hx hb d_M_layShort_721 rfl (lv_at hl 0 rfl) ?_
            refine lv_bipush (v := 11) hx hb d_M_layShort_722 (by decide) ?_
            refine lv_bipush (v := 7) hx hb d_M_layShort_724 (by decide) ?_
            refine lv_sipush (v := 200) hx hb d_M_layShort_726 (by decide) ?_
            refine lv_iconst (v := 4) hx hb d_M_layShort_729 (by decide) ?_
            obtain ⟨q_730, e_730⟩ : ∃ z, z = (mF_StepMachineModel_lay q_705 k_676 11 7 200 4) := ⟨_, rfl⟩
            refine wVv (As := [.int k_676, .int 11, .int 7, .int 200, .int 4]) (rest := []) e_730 ⟨hx, hb, hml, hown, hts⟩ (mc_StepMachineModel_lay l D tc tb z0 _ b_x b_row b_part b_mem b_mrk b_sf b_ss b_sr b_h b_r b_in b_out b_k m_on m_hc m_pc m_giv m_tak m_put m_st m_cu m_va m_sp m_un m_kc m_kn m_by m_kd m_tg m_ju q_705 k_676 11 7 200 4 (k75 hq c_679 (by decide)) (by decide) (by decide)) (cwV 5 hts (goodV a_603 a_604 a_912 a_10 a_605) rfl rfl rfl hv_M_lay ⟨Nat.le_of_ble_eq_true rfl, Nat.le_of_ble_eq_true rfl⟩) hP hD hS hA hZ hK hB [0, 1] rfl (by decide) (fun _ => rfl) rfl rfl rfl hl.1 rfl (Nat.le_of_ble_eq_true rfl) d_M_layShort_730 ⟨Nat.zero_le _, Nat.zero_le _⟩ (fun H locs hP hD hS => ?_)
            have hP : va_P D vwCl [(b_x, .inr (9, [.ref b_row, .ref b_part, .ref b_mem, .ref b_mrk, .ref b_sf, .ref b_ss, .ref b_sr, .int m_on, .ref b_h, .int m_hc, .ref b_r, .int m_pc, .ref b_in, .int m_giv, .int m_tak, .ref b_out, .int m_put, .int m_st, .int m_cu, .int m_va, .int m_sp, .int m_un, .ref b_k, .int m_kc, .int m_kn, .int m_by, .int m_kd, .int m_tg, .int m_ju])), (b_row, .inl (tc 0, 2400, .inl q_730))] H := hP
            have hD : va_D A [(b_x, .inr (9, [.ref b_row, .ref b_part, .ref b_mem, .ref b_mrk, .ref b_sf, .ref b_ss, .ref b_sr, .int m_on, .ref b_h, .int m_hc, .ref b_r, .int m_pc, .ref b_in, .int m_giv, .int m_tak, .ref b_out, .int m_put, .int m_st, .int m_cu, .int m_va, .int m_sp, .int m_un, .ref b_k, .int m_kc, .int m_kn, .int m_by, .int m_kd, .int m_tg, .int m_ju])), (b_row, .inl (tc 0, 2400, .inl q_730))] := hD
            refine lv_iload_n hx hb d_M_layShort_733 rfl (lv_at hl 0 rfl) ?_
            refine lv_bipush (v := 70) hx hb d_M_layShort_734 (by decide) ?_
            refine lv_icmp_eq (tgt := 745) hx hb d_M_layShort_736 (by decide) (fun c_736 => absurd c_736 (by rw [c_711]; decide)) (fun c_736 => ?_)
            refine lv_iload_n hx hb d_M_layShort_739 rfl (lv_at hl 0 rfl) ?_
            refine lv_bipush (v := 73) hx hb d_M_layShort_740 (by decide) ?_
            refine lv_icmp_ne (tgt := 757) hx hb d_M_layShort_742 (by decide) (fun c_742 => ?_) (fun c_742 => absurd c_742 (by rw [c_711]; decide))
            refine lv_iload_n hx hb d_M_layShort_757 rfl (lv_at hl 0 rfl) ?_
            refine lv_bipush (v := 70) hx hb d_M_layShort_758 (by decide) ?_
            refine lv_icmp_eq (tgt := 769) hx hb d_M_layShort_760 (by decide) (fun c_760 => absurd c_760 (by rw [c_711]; decide)) (fun c_760 => ?_)
            refine lv_iload_n hx hb d_M_layShort_763 rfl (lv_at hl 0 rfl) ?_
            refine lv_bipush (v := 73) hx hb d_M_layShort_764 (by decide) ?_
            refine lv_icmp_ne (tgt := 781) hx hb d_M_layShort_766 (by decide) (fun c_766 => ?_) (fun c_766 => absurd c_766 (by rw [c_711]; decide))
            refine lv_iinc (v := (k_676 + 1)) (lv' := [(1, .int (k_676 + 1)), (0, .ref b_x)]) hx hb d_M_layShort_781 hl (k := 0) rfl rfl (by decide) rfl (fun ls hl => ?_)
            refine lv_goto (tgt := 676) hx hb d_M_layShort_784 (by decide) ?_
            exact ih_676 (k_676 + 1) q_730 _ _ ls (st_nn c_679 hq) (ms_step c_679 hm_676) (by have h := hX_676; rw [mF_StepMachineModel_layShort_L676, if_neg c_679, ← e_686, mF_StepMachineModel_layShort_80, if_pos c_697, ← e_705, mF_StepMachineModel_layShort_81, if_pos c_711, ← e_730, mF_StepMachineModel_layShort_82] at h; exact h) hP hD hS (lv_sub hl [0, 1] rfl)
          · skip
            refine lv_iload_n hx hb d_M_layShort_714 rfl (lv_at hl 0 rfl) ?_
            refine lv_bipush (v := 72) hx hb d_M_layShort_715 (by decide) ?_
            refine lv_icmp_ne (tgt := 733) hx hb d_M_layShort_717 (by decide) (fun c_717 => ?_) (fun c_717 => ?_)
            · skip
              refine lv_iload_n hx hb d_M_layShort_733 rfl (lv_at hl 0 rfl) ?_
              refine lv_bipush (v := 70) hx hb d_M_layShort_734 (by decide) ?_
              refine lv_icmp_eq (tgt := 745) hx hb d_M_layShort_736 (by decide) (fun c_736 => ?_) (fun c_736 => ?_)
              · skip
                refine lv_aload_n hx hb d_M_layShort_745 rfl (lv_at hl 1 rfl) ?_
                refine lv_iload_n hx hb d_M_layShort_746 rfl (lv_at hl 0 rfl) ?_
                refine lv_bipush (v := 11) hx hb d_M_layShort_747 (by decide) ?_
                refine lv_bipush (v := 7) hx hb d_M_layShort_749 (by decide) ?_
                refine lv_bipush (v := 100) hx hb d_M_layShort_751 (by decide) ?_
                refine lv_iconst (v := 4) hx hb d_M_layShort_753 (by decide) ?_
                obtain ⟨q_754, e_754⟩ : ∃ z, z = (mF_StepMachineModel_lay q_705 k_676 11 7 100 4) := ⟨_, rfl⟩
                refine wVv (As := [.int k_676, .int 11, .int 7, .int 100, .int 4]) (rest := []) e_754 ⟨hx, hb, hml, hown, hts⟩ (mc_StepMachineModel_lay l D tc tb z0 _ b_x b_row b_part b_mem b_mrk b_sf b_ss b_sr b_h b_r b_in b_out b_k m_on m_hc m_pc m_giv m_tak m_put m_st m_cu m_va m_sp m_un m_kc m_kn m_by m_kd m_tg m_ju q_705 k_676 11 7 100 4 (k75 hq c_679 (by decide)) (by decide) (by decide)) (cwV 5 hts (goodV a_603 a_604 a_912 a_10 a_605) rfl rfl rfl hv_M_lay ⟨Nat.le_of_ble_eq_true rfl, Nat.le_of_ble_eq_true rfl⟩) hP hD hS hA hZ hK hB [0, 1] rfl (by decide) (fun _ => rfl) rfl rfl rfl hl.1 rfl (Nat.le_of_ble_eq_true rfl) d_M_layShort_754 ⟨Nat.zero_le _, Nat.zero_le _⟩ (fun H locs hP hD hS => ?_)
                have hP : va_P D vwCl [(b_x, .inr (9, [.ref b_row, .ref b_part, .ref b_mem, .ref b_mrk, .ref b_sf, .ref b_ss, .ref b_sr, .int m_on, .ref b_h, .int m_hc, .ref b_r, .int m_pc, .ref b_in, .int m_giv, .int m_tak, .ref b_out, .int m_put, .int m_st, .int m_cu, .int m_va, .int m_sp, .int m_un, .ref b_k, .int m_kc, .int m_kn, .int m_by, .int m_kd, .int m_tg, .int m_ju])), (b_row, .inl (tc 0, 2400, .inl q_754))] H := hP
                have hD : va_D A [(b_x, .inr (9, [.ref b_row, .ref b_part, .ref b_mem, .ref b_mrk, .ref b_sf, .ref b_ss, .ref b_sr, .int m_on, .ref b_h, .int m_hc, .ref b_r, .int m_pc, .ref b_in, .int m_giv, .int m_tak, .ref b_out, .int m_put, .int m_st, .int m_cu, .int m_va, .int m_sp, .int m_un, .ref b_k, .int m_kc, .int m_kn, .int m_by, .int m_kd, .int m_tg, .int m_ju])), (b_row, .inl (tc 0, 2400, .inl q_754))] := hD
                refine lv_iload_n hx hb d_M_layShort_757 rfl (lv_at hl 0 rfl) ?_
                refine lv_bipush (v := 70) hx hb d_M_layShort_758 (by decide) ?_
                refine lv_icmp_eq (tgt := 769) hx hb d_M_layShort_760 (by decide) (fun c_760 => ?_) (fun c_760 => absurd c_736 c_760)
                refine lv_aload_n hx hb d_M_layShort_769 rfl (lv_at hl 1 rfl) ?_
                refine lv_iload_n hx hb d_M_layShort_770 rfl (lv_at hl 0 rfl) ?_
                refine lv_bipush (v := 6) hx hb d_M_layShort_771 (by decide) ?_
                refine lv_iconst (v := 2) hx hb d_M_layShort_773 (by decide) ?_
                refine lv_sipush (v := 300) hx hb d_M_layShort_774 (by decide) ?_
                refine lv_iconst (v := 4) hx hb d_M_layShort_777 (by decide) ?_
                obtain ⟨q_778, e_778⟩ : ∃ z, z = (mF_StepMachineModel_lay q_754 k_676 6 2 300 4) := ⟨_, rfl⟩
                refine wVv (As := [.int k_676, .int 6, .int 2, .int 300, .int 4]) (rest := []) e_778 ⟨hx, hb, hml, hown, hts⟩ (mc_StepMachineModel_lay l D tc tb z0 _ b_x b_row b_part b_mem b_mrk b_sf b_ss b_sr b_h b_r b_in b_out b_k m_on m_hc m_pc m_giv m_tak m_put m_st m_cu m_va m_sp m_un m_kc m_kn m_by m_kd m_tg m_ju q_754 k_676 6 2 300 4 (k75 hq c_679 (by decide)) (by decide) (by decide)) (cwV 5 hts (goodV a_603 a_604 a_912 a_10 a_605) rfl rfl rfl hv_M_lay ⟨Nat.le_of_ble_eq_true rfl, Nat.le_of_ble_eq_true rfl⟩) hP hD hS hA hZ hK hB [0, 1] rfl (by decide) (fun _ => rfl) rfl rfl rfl hl.1 rfl (Nat.le_of_ble_eq_true rfl) d_M_layShort_778 ⟨Nat.zero_le _, Nat.zero_le _⟩ (fun H locs hP hD hS => ?_)
                have hP : va_P D vwCl [(b_x, .inr (9, [.ref b_row, .ref b_part, .ref b_mem, .ref b_mrk, .ref b_sf, .ref b_ss, .ref b_sr, .int m_on, .ref b_h, .int m_hc, .ref b_r, .int m_pc, .ref b_in, .int m_giv, .int m_tak, .ref b_out, .int m_put, .int m_st, .int m_cu, .int m_va, .int m_sp, .int m_un, .ref b_k, .int m_kc, .int m_kn, .int m_by, .int m_kd, .int m_tg, .int m_ju])), (b_row, .inl (tc 0, 2400, .inl q_778))] H := hP
                have hD : va_D A [(b_x, .inr (9, [.ref b_row, .ref b_part, .ref b_mem, .ref b_mrk, .ref b_sf, .ref b_ss, .ref b_sr, .int m_on, .ref b_h, .int m_hc, .ref b_r, .int m_pc, .ref b_in, .int m_giv, .int m_tak, .ref b_out, .int m_put, .int m_st, .int m_cu, .int m_va, .int m_sp, .int m_un, .ref b_k, .int m_kc, .int m_kn, .int m_by, .int m_kd, .int m_tg, .int m_ju])), (b_row, .inl (tc 0, 2400, .inl q_778))] := hD
                refine lv_iinc (v := (k_676 + 1)) (lv' := [(1, .int (k_676 + 1)), (0, .ref b_x)]) hx hb d_M_layShort_781 hl (k := 0) rfl rfl (by decide) rfl (fun ls hl => ?_)
                refine lv_goto (tgt := 676) hx hb d_M_layShort_784 (by decide) ?_
                exact ih_676 (k_676 + 1) q_778 _ _ ls (st_nn c_679 hq) (ms_step c_679 hm_676) (by have h := hX_676; rw [mF_StepMachineModel_layShort_L676, if_neg c_679, ← e_686, mF_StepMachineModel_layShort_80, if_pos c_697, ← e_705, mF_StepMachineModel_layShort_81, if_neg c_711, if_neg c_717, if_pos c_736, ← e_754, mF_StepMachineModel_layShort_83, ← e_778, mF_StepMachineModel_layShort_84] at h; exact h) hP hD hS (lv_sub hl [0, 1] rfl)
              · skip
                refine lv_iload_n hx hb d_M_layShort_739 rfl (lv_at hl 0 rfl) ?_
                refine lv_bipush (v := 73) hx hb d_M_layShort_740 (by decide) ?_
                refine lv_icmp_ne (tgt := 757) hx hb d_M_layShort_742 (by decide) (fun c_742 => ?_) (fun c_742 => ?_)
                · skip
                  refine lv_iload_n hx hb d_M_layShort_757 rfl (lv_at hl 0 rfl) ?_
                  refine lv_bipush (v := 70) hx hb d_M_layShort_758 (by decide) ?_
                  refine lv_icmp_eq (tgt := 769) hx hb d_M_layShort_760 (by decide) (fun c_760 => absurd c_760 c_736) (fun c_760 => ?_)
                  refine lv_iload_n hx hb d_M_layShort_763 rfl (lv_at hl 0 rfl) ?_
                  refine lv_bipush (v := 73) hx hb d_M_layShort_764 (by decide) ?_
                  refine lv_icmp_ne (tgt := 781) hx hb d_M_layShort_766 (by decide) (fun c_766 => ?_) (fun c_766 => absurd c_766 c_742)
                  refine lv_iinc (v := (k_676 + 1)) (lv' := [(1, .int (k_676 + 1)), (0, .ref b_x)]) hx hb d_M_layShort_781 hl (k := 0) rfl rfl (by decide) rfl (fun ls hl => ?_)
                  refine lv_goto (tgt := 676) hx hb d_M_layShort_784 (by decide) ?_
                  exact ih_676 (k_676 + 1) q_705 _ _ ls (st_nn c_679 hq) (ms_step c_679 hm_676) (by have h := hX_676; rw [mF_StepMachineModel_layShort_L676, if_neg c_679, ← e_686, mF_StepMachineModel_layShort_80, if_pos c_697, ← e_705, mF_StepMachineModel_layShort_81, if_neg c_711, if_neg c_717, if_neg c_736, if_neg c_742] at h; exact h) hP hD hS (lv_sub hl [0, 1] rfl)
                · skip
                  refine lv_aload_n hx hb d_M_layShort_745 rfl (lv_at hl 1 rfl) ?_
                  refine lv_iload_n hx hb d_M_layShort_746 rfl (lv_at hl 0 rfl) ?_
                  refine lv_bipush (v := 11) hx hb d_M_layShort_747 (by decide) ?_
                  refine lv_bipush (v := 7) hx hb d_M_layShort_749 (by decide) ?_
                  refine lv_bipush (v := 100) hx hb d_M_layShort_751 (by decide) ?_
                  refine lv_iconst (v := 4) hx hb d_M_layShort_753 (by decide) ?_
                  obtain ⟨q_754, e_754⟩ : ∃ z, z = (mF_StepMachineModel_lay q_705 k_676 11 7 100 4) := ⟨_, rfl⟩
                  refine wVv (As := [.int k_676, .int 11, .int 7, .int 100, .int 4]) (rest := []) e_754 ⟨hx, hb, hml, hown, hts⟩ (mc_StepMachineModel_lay l D tc tb z0 _ b_x b_row b_part b_mem b_mrk b_sf b_ss b_sr b_h b_r b_in b_out b_k m_on m_hc m_pc m_giv m_tak m_put m_st m_cu m_va m_sp m_un m_kc m_kn m_by m_kd m_tg m_ju q_705 k_676 11 7 100 4 (k75 hq c_679 (by decide)) (by decide) (by decide)) (cwV 5 hts (goodV a_603 a_604 a_912 a_10 a_605) rfl rfl rfl hv_M_lay ⟨Nat.le_of_ble_eq_true rfl, Nat.le_of_ble_eq_true rfl⟩) hP hD hS hA hZ hK hB [0, 1] rfl (by decide) (fun _ => rfl) rfl rfl rfl hl.1 rfl (Nat.le_of_ble_eq_true rfl) d_M_layShort_754 ⟨Nat.zero_le _, Nat.zero_le _⟩ (fun H locs hP hD hS => ?_)
                  have hP : va_P D vwCl [(b_x, .inr (9, [.ref b_row, .ref b_part, .ref b_mem, .ref b_mrk, .ref b_sf, .ref b_ss, .ref b_sr, .int m_on, .ref b_h, .int m_hc, .ref b_r, .int m_pc, .ref b_in, .int m_giv, .int m_tak, .ref b_out, .int m_put, .int m_st, .int m_cu, .int m_va, .int m_sp, .int m_un, .ref b_k, .int m_kc, .int m_kn, .int m_by, .int m_kd, .int m_tg, .int m_ju])), (b_row, .inl (tc 0, 2400, .inl q_754))] H := hP
                  have hD : va_D A [(b_x, .inr (9, [.ref b_row, .ref b_part, .ref b_mem, .ref b_mrk, .ref b_sf, .ref b_ss, .ref b_sr, .int m_on, .ref b_h, .int m_hc, .ref b_r, .int m_pc, .ref b_in, .int m_giv, .int m_tak, .ref b_out, .int m_put, .int m_st, .int m_cu, .int m_va, .int m_sp, .int m_un, .ref b_k, .int m_kc, .int m_kn, .int m_by, .int m_kd, .int m_tg, .int m_ju])), (b_row, .inl (tc 0, 2400, .inl q_754))] := hD
                  refine lv_iload_n hx hb d_M_layShort_757 rfl (lv_at hl 0 rfl) ?_
                  refine lv_bipush (v := 70) hx hb d_M_layShort_758 (by decide) ?_
                  refine lv_icmp_eq (tgt := 769) hx hb d_M_layShort_760 (by decide) (fun c_760 => absurd c_760 c_736) (fun c_760 => ?_)
                  refine lv_iload_n hx hb d_M_layShort_763 rfl (lv_at hl 0 rfl) ?_
                  refine lv_bipush (v := 73) hx hb d_M_layShort_764 (by decide) ?_
                  refine lv_icmp_ne (tgt := 781) hx hb d_M_layShort_766 (by decide) (fun c_766 => absurd c_742 c_766) (fun c_766 => ?_)
                  refine lv_aload_n hx hb d_M_layShort_769 rfl (lv_at hl 1 rfl) ?_
                  refine lv_iload_n hx hb d_M_layShort_770 rfl (lv_at hl 0 rfl) ?_
                  refine lv_bipush (v := 6) hx hb d_M_layShort_771 (by decide) ?_
                  refine lv_iconst (v := 2) hx hb d_M_layShort_773 (by decide) ?_
                  refine lv_sipush (v := 300) hx hb d_M_layShort_774 (by decide) ?_
                  refine lv_iconst (v := 4) hx hb d_M_layShort_777 (by decide) ?_
                  obtain ⟨q_778, e_778⟩ : ∃ z, z = (mF_StepMachineModel_lay q_754 k_676 6 2 300 4) := ⟨_, rfl⟩
                  refine wVv (As := [.int k_676, .int 6, .int 2, .int 300, .int 4]) (rest := []) e_778 ⟨hx, hb, hml, hown, hts⟩ (mc_StepMachineModel_lay l D tc tb z0 _ b_x b_row b_part b_mem b_mrk b_sf b_ss b_sr b_h b_r b_in b_out b_k m_on m_hc m_pc m_giv m_tak m_put m_st m_cu m_va m_sp m_un m_kc m_kn m_by m_kd m_tg m_ju q_754 k_676 6 2 300 4 (k75 hq c_679 (by decide)) (by decide) (by decide)) (cwV 5 hts (goodV a_603 a_604 a_912 a_10 a_605) rfl rfl rfl hv_M_lay ⟨Nat.le_of_ble_eq_true rfl, Nat.le_of_ble_eq_true rfl⟩) hP hD hS hA hZ hK hB [0, 1] rfl (by decide) (fun _ => rfl) rfl rfl rfl hl.1 rfl (Nat.le_of_ble_eq_true rfl) d_M_layShort_778 ⟨Nat.zero_le _, Nat.zero_le _⟩ (fun H locs hP hD hS => ?_)
                  have hP : va_P D vwCl [(b_x, .inr (9, [.ref b_row, .ref b_part, .ref b_mem, .ref b_mrk, .ref b_sf, .ref b_ss, .ref b_sr, .int m_on, .ref b_h, .int m_hc, .ref b_r, .int m_pc, .ref b_in, .int m_giv, .int m_tak, .ref b_out, .int m_put, .int m_st, .int m_cu, .int m_va, .int m_sp, .int m_un, .ref b_k, .int m_kc, .int m_kn, .int m_by, .int m_kd, .int m_tg, .int m_ju])), (b_row, .inl (tc 0, 2400, .inl q_778))] H := hP
                  have hD : va_D A [(b_x, .inr (9, [.ref b_row, .ref b_part, .ref b_mem, .ref b_mrk, .ref b_sf, .ref b_ss, .ref b_sr, .int m_on, .ref b_h, .int m_hc, .ref b_r, .int m_pc, .ref b_in, .int m_giv, .int m_tak, .ref b_out, .int m_put, .int m_st, .int m_cu, .int m_va, .int m_sp, .int m_un, .ref b_k, .int m_kc, .int m_kn, .int m_by, .int m_kd, .int m_tg, .int m_ju])), (b_row, .inl (tc 0, 2400, .inl q_778))] := hD
                  refine lv_iinc (v := (k_676 + 1)) (lv' := [(1, .int (k_676 + 1)), (0, .ref b_x)]) hx hb d_M_layShort_781 hl (k := 0) rfl rfl (by decide) rfl (fun ls hl => ?_)
                  refine lv_goto (tgt := 676) hx hb d_M_layShort_784 (by decide) ?_
                  exact ih_676 (k_676 + 1) q_778 _ _ ls (st_nn c_679 hq) (ms_step c_679 hm_676) (by have h := hX_676; rw [mF_StepMachineModel_layShort_L676, if_neg c_679, ← e_686, mF_StepMachineModel_layShort_80, if_pos c_697, ← e_705, mF_StepMachineModel_layShort_81, if_neg c_711, if_neg c_717, if_neg c_736, if_pos c_742, ← e_754, mF_StepMachineModel_layShort_85, ← e_778, mF_StepMachineModel_layShort_86] at h; exact h) hP hD hS (lv_sub hl [0, 1] rfl)
            · skip
              refine lv_aload_n hx hb d_M_layShort_720 rfl (lv_at hl 1 rfl) ?_
              refine lv_iload_n hx hb d_M_layShort_721 rfl (lv_at hl 0 rfl) ?_
              refine lv_bipush (v := 11) hx hb d_M_layShort_722 (by decide) ?_
              refine lv_bipush (v := 7) hx hb d_M_layShort_724 (by decide) ?_
              refine lv_sipush (v := 200) hx hb d_M_layShort_726 (by decide) ?_
              refine lv_iconst (v := 4) hx hb d_M_layShort_729 (by decide) ?_
              obtain ⟨q_730, e_730⟩ : ∃ z, z = (mF_StepMachineModel_lay q_705 k_676 11 7 200 4) := ⟨_, rfl⟩
              refine wVv (As := [.int k_676, .int 11, .int 7, .int 200, .int 4]) (rest := []) e_730 ⟨hx, hb, hml, hown, hts⟩ (mc_StepMachineModel_lay l D tc tb z0 _ b_x b_row b_part b_mem b_mrk b_sf b_ss b_sr b_h b_r b_in b_out b_k m_on m_hc m_pc m_giv m_tak m_put m_st m_cu m_va m_sp m_un m_kc m_kn m_by m_kd m_tg m_ju q_705 k_676 11 7 200 4 (k75 hq c_679 (by decide)) (by decide) (by decide)) (cwV 5 hts (goodV a_603 a_604 a_912 a_10 a_605) rfl rfl rfl hv_M_lay ⟨Nat.le_of_ble_eq_true rfl, Nat.le_of_ble_eq_true rfl⟩) hP hD hS hA hZ hK hB [0, 1] rfl (by decide) (fun _ => rfl) rfl rfl rfl hl.1 rfl (Nat.le_of_ble_eq_true rfl) d_M_layShort_730 ⟨Nat.zero_le _, Nat.zero_le _⟩ (fun H locs hP hD hS => ?_)
              have hP : va_P D vwCl [(b_x, .inr (9, [.ref b_row, .ref b_part, .ref b_mem, .ref b_mrk, .ref b_sf, .ref b_ss, .ref b_sr, .int m_on, .ref b_h, .int m_hc, .ref b_r, .int m_pc, .ref b_in, .int m_giv, .int m_tak, .ref b_out, .int m_put, .int m_st, .int m_cu, .int m_va, .int m_sp, .int m_un, .ref b_k, .int m_kc, .int m_kn, .int m_by, .int m_kd, .int m_tg, .int m_ju])), (b_row, .inl (tc 0, 2400, .inl q_730))] H := hP
              have hD : va_D A [(b_x, .inr (9, [.ref b_row, .ref b_part, .ref b_mem, .ref b_mrk, .ref b_sf, .ref b_ss, .ref b_sr, .int m_on, .ref b_h, .int m_hc, .ref b_r, .int m_pc, .ref b_in, .int m_giv, .int m_tak, .ref b_out, .int m_put, .int m_st, .int m_cu, .int m_va, .int m_sp, .int m_un, .ref b_k, .int m_kc, .int m_kn, .int m_by, .int m_kd, .int m_tg, .int m_ju])), (b_row, .inl (tc 0, 2400, .inl q_730))] := hD
              refine lv_iload_n hx hb d_M_layShort_733 rfl (lv_at hl 0 rfl) ?_
              refine lv_bipush (v := 70) hx hb d_M_layShort_734 (by decide) ?_
              refine lv_icmp_eq (tgt := 745) hx hb d_M_layShort_736 (by decide) (fun c_736 => absurd c_736 (by rw [c_717]; decide)) (fun c_736 => ?_)
              refine lv_iload_n hx hb d_M_layShort_739 rfl (lv_at hl 0 rfl) ?_
              refine lv_bipush (v := 73) hx hb d_M_layShort_740 (by decide) ?_
              refine lv_icmp_ne (tgt := 757) hx hb d_M_layShort_742 (by decide) (fun c_742 => ?_) (fun c_742 => absurd c_742 (by rw [c_717]; decide))
              refine lv_iload_n hx hb d_M_layShort_757 rfl (lv_at hl 0 rfl) ?_
              refine lv_bipush (v := 70) hx hb d_M_layShort_758 (by decide) ?_
              refine lv_icmp_eq (tgt := 769) hx hb d_M_layShort_760 (by decide) (fun c_760 => absurd c_760 (by rw [c_717]; decide)) (fun c_760 => ?_)
              refine lv_iload_n hx hb d_M_layShort_763 rfl (lv_at hl 0 rfl) ?_
              refine lv_bipush (v := 73) hx hb d_M_layShort_764 (by decide) ?_
              refine lv_icmp_ne (tgt := 781) hx hb d_M_layShort_766 (by decide) (fun c_766 => ?_) (fun c_766 => absurd c_766 (by rw [c_717]; decide))
              refine lv_iinc (v := (k_676 + 1)) (lv' := [(1, .int (k_676 + 1)), (0, .ref b_x)]) hx hb d_M_layShort_781 hl (k := 0) rfl rfl (by decide) rfl (fun ls hl => ?_)
              refine lv_goto (tgt := 676) hx hb d_M_layShort_784 (by decide) ?_
              exact ih_676 (k_676 + 1) q_730 _ _ ls (st_nn c_679 hq) (ms_step c_679 hm_676) (by have h := hX_676; rw [mF_StepMachineModel_layShort_L676, if_neg c_679, ← e_686, mF_StepMachineModel_layShort_80, if_pos c_697, ← e_705, mF_StepMachineModel_layShort_81, if_neg c_711, if_pos c_717, ← e_730, mF_StepMachineModel_layShort_87] at h; exact h) hP hD hS (lv_sub hl [0, 1] rfl)
        · skip
          refine lv_iconst (v := 1) hx hb d_M_layShort_700 (by decide) ?_
          refine lv_goto (tgt := 705) hx hb d_M_layShort_701 (by decide) ?_
          obtain ⟨q_705, e_705⟩ : ∃ z, z = (mF_StepMachineModel_fix q_686 k_676 12 1 1) := ⟨_, rfl⟩
          refine wVv (As := [.int k_676, .int 12, .int 1, .int 1]) (rest := []) e_705 ⟨hx, hb, hml, hown, hts⟩ (mc_StepMachineModel_fix l D tc tb z0 _ b_x b_row b_part b_mem b_mrk b_sf b_ss b_sr b_h b_r b_in b_out b_k m_on m_hc m_pc m_giv m_tak m_put m_st m_cu m_va m_sp m_un m_kc m_kn m_by m_kd m_tg m_ju q_686 k_676 12 1 1 (k75 hq c_679 (by decide)) (by decide) (by decide)) (cwV 4 hts (goodV a_597 a_598 a_911 a_10 a_599) rfl rfl rfl hv_M_fix ⟨Nat.le_of_ble_eq_true rfl, Nat.le_of_ble_eq_true rfl⟩) hP hD hS hA hZ hK hB [0, 1] rfl (by decide) (fun _ => rfl) rfl rfl rfl hl.1 rfl (Nat.le_of_ble_eq_true rfl) d_M_layShort_705 ⟨Nat.zero_le _, Nat.zero_le _⟩ (fun H locs hP hD hS => ?_)
          have hP : va_P D vwCl [(b_x, .inr (9, [.ref b_row, .ref b_part, .ref b_mem, .ref b_mrk, .ref b_sf, .ref b_ss, .ref b_sr, .int m_on, .ref b_h, .int m_hc, .ref b_r, .int m_pc, .ref b_in, .int m_giv, .int m_tak, .ref b_out, .int m_put, .int m_st, .int m_cu, .int m_va, .int m_sp, .int m_un, .ref b_k, .int m_kc, .int m_kn, .int m_by, .int m_kd, .int m_tg, .int m_ju])), (b_row, .inl (tc 0, 2400, .inl q_705))] H := hP
          have hD : va_D A [(b_x, .inr (9, [.ref b_row, .ref b_part, .ref b_mem, .ref b_mrk, .ref b_sf, .ref b_ss, .ref b_sr, .int m_on, .ref b_h, .int m_hc, .ref b_r, .int m_pc, .ref b_in, .int m_giv, .int m_tak, .ref b_out, .int m_put, .int m_st, .int m_cu, .int m_va, .int m_sp, .int m_un, .ref b_k, .int m_kc, .int m_kn, .int m_by, .int m_kd, .int m_tg, .int m_ju])), (b_row, .inl (tc 0, 2400, .inl q_705))] := hD
          refine lv_iload_n hx hb d_M_layShort_708 rfl (lv_at hl 0 rfl) ?_
          refine lv_bipush (v := 69) hx hb d_M_layShort_709 (by decide) ?_
          refine lv_icmp_eq (tgt := 720) hx hb d_M_layShort_711 (by decide) (fun c_711 => ?_) (fun c_711 => ?_)
          · skip
            refine lv_aload_n hx hb d_M_layShort_720 rfl (lv_at hl 1 rfl) ?_
            refine lv_iload_n hx hb d_M_layShort_721 rfl (lv_at hl 0 rfl) ?_
            refine lv_bipush (v := 11) hx hb d_M_layShort_722 (by decide) ?_
            refine lv_bipush (v := 7) hx hb d_M_layShort_724 (by decide) ?_
            refine lv_sipush (v := 200) hx hb d_M_layShort_726 (by decide) ?_
            refine lv_iconst (v := 4) hx hb d_M_layShort_729 (by decide) ?_
            obtain ⟨q_730, e_730⟩ : ∃ z, z = (mF_StepMachineModel_lay q_705 k_676 11 7 200 4) := ⟨_, rfl⟩
            refine wVv (As := [.int k_676, .int 11, .int 7, .int 200, .int 4]) (rest := []) e_730 ⟨hx, hb, hml, hown, hts⟩ (mc_StepMachineModel_lay l D tc tb z0 _ b_x b_row b_part b_mem b_mrk b_sf b_ss b_sr b_h b_r b_in b_out b_k m_on m_hc m_pc m_giv m_tak m_put m_st m_cu m_va m_sp m_un m_kc m_kn m_by m_kd m_tg m_ju q_705 k_676 11 7 200 4 (k75 hq c_679 (by decide)) (by decide) (by decide)) (cwV 5 hts (goodV a_603 a_604 a_912 a_10 a_605) rfl rfl rfl hv_M_lay ⟨Nat.le_of_ble_eq_true rfl, Nat.le_of_ble_eq_true rfl⟩) hP hD hS hA hZ hK hB [0, 1] rfl (by decide) (fun _ => rfl) rfl rfl rfl hl.1 rfl (Nat.le_of_ble_eq_true rfl) d_M_layShort_730 ⟨Nat.zero_le _, Nat.zero_le _⟩ (fun H locs hP hD hS => ?_)
            have hP : va_P D vwCl [(b_x, .inr (9, [.ref b_row, .ref b_part, .ref b_mem, .ref b_mrk, .ref b_sf, .ref b_ss, .ref b_sr, .int m_on, .ref b_h, .int m_hc, .ref b_r, .int m_pc, .ref b_in, .int m_giv, .int m_tak, .ref b_out, .int m_put, .int m_st, .int m_cu, .int m_va, .int m_sp, .int m_un, .ref b_k, .int m_kc, .int m_kn, .int m_by, .int m_kd, .int m_tg, .int m_ju])), (b_row, .inl (tc 0, 2400, .inl q_730))] H := hP
            have hD : va_D A [(b_x, .inr (9, [.ref b_row, .ref b_part, .ref b_mem, .ref b_mrk, .ref b_sf, .ref b_ss, .ref b_sr, .int m_on, .ref b_h, .int m_hc, .ref b_r, .int m_pc, .ref b_in, .int m_giv, .int m_tak, .ref b_out, .int m_put, .int m_st, .int m_cu, .int m_va, .int m_sp, .int m_un, .ref b_k, .int m_kc, .int m_kn, .int m_by, .int m_kd, .int m_tg, .int m_ju])), (b_row, .inl (tc 0, 2400, .inl q_730))] := hD
            refine lv_iload_n hx hb d_M_layShort_733 rfl (lv_at hl 0 rfl) ?_
            refine lv_bipush (v := 70) hx hb d_M_layShort_734 (by decide) ?_
            refine lv_icmp_eq (tgt := 745) hx hb d_M_layShort_736 (by decide) (fun c_736 => absurd c_736 (by rw [c_711]; decide)) (fun c_736 => ?_)
            refine lv_iload_n hx hb d_M_layShort_739 rfl (lv_at hl 0 rfl) ?_
            refine lv_bipush (v := 73) hx hb d_M_layShort_740 (by decide) ?_
            refine lv_icmp_ne (tgt := 757) hx hb d_M_layShort_742 (by decide) (fun c_742 => ?_) (fun c_742 => absurd c_742 (by rw [c_711]; decide))
            refine lv_iload_n hx hb d_M_layShort_757 rfl (lv_at hl 0 rfl) ?_
            refine lv_bipush (v := 70) hx hb d_M_layShort_758 (by decide) ?_
            refine lv_icmp_eq (tgt := 769) hx hb d_M_layShort_760 (by decide) (fun c_760 => absurd c_760 (by rw [c_711]; decide)) (fun c_760 => ?_)
            refine lv_iload_n hx hb d_M_layShort_763 rfl (lv_at hl 0 rfl) ?_
            refine lv_bipush (v := 73) hx hb d_M_layShort_764 (by decide) ?_
            refine lv_icmp_ne (tgt := 781) hx hb d_M_layShort_766 (by decide) (fun c_766 => ?_) (fun c_766 => absurd c_766 (by rw [c_711]; decide))
            refine lv_iinc (v := (k_676 + 1)) (lv' := [(1, .int (k_676 + 1)), (0, .ref b_x)]) hx hb d_M_layShort_781 hl (k := 0) rfl rfl (by decide) rfl (fun ls hl => ?_)
            refine lv_goto (tgt := 676) hx hb d_M_layShort_784 (by decide) ?_
            exact ih_676 (k_676 + 1) q_730 _ _ ls (st_nn c_679 hq) (ms_step c_679 hm_676) (by have h := hX_676; rw [mF_StepMachineModel_layShort_L676, if_neg c_679, ← e_686, mF_StepMachineModel_layShort_80, if_neg c_697, ← e_705, mF_StepMachineModel_layShort_88, if_pos c_711, ← e_730, mF_StepMachineModel_layShort_89] at h; exact h) hP hD hS (lv_sub hl [0, 1] rfl)
          · skip
            refine lv_iload_n hx hb d_M_layShort_714 rfl (lv_at hl 0 rfl) ?_
            refine lv_bipush (v := 72) hx hb d_M_layShort_715 (by decide) ?_
            refine lv_icmp_ne (tgt := 733) hx hb d_M_layShort_717 (by decide) (fun c_717 => ?_) (fun c_717 => ?_)
            · skip
              refine lv_iload_n hx hb d_M_layShort_733 rfl (lv_at hl 0 rfl) ?_
              refine lv_bipush (v := 70) hx hb d_M_layShort_734 (by decide) ?_
              refine lv_icmp_eq (tgt := 745) hx hb d_M_layShort_736 (by decide) (fun c_736 => ?_) (fun c_736 => ?_)
              · skip
                refine lv_aload_n hx hb d_M_layShort_745 rfl (lv_at hl 1 rfl) ?_
                refine lv_iload_n hx hb d_M_layShort_746 rfl (lv_at hl 0 rfl) ?_
                refine lv_bipush (v := 11) hx hb d_M_layShort_747 (by decide) ?_
                refine lv_bipush (v := 7) hx hb d_M_layShort_749 (by decide) ?_
                refine lv_bipush (v := 100) hx hb d_M_layShort_751 (by decide) ?_
                refine lv_iconst (v := 4) hx hb d_M_layShort_753 (by decide) ?_
                obtain ⟨q_754, e_754⟩ : ∃ z, z = (mF_StepMachineModel_lay q_705 k_676 11 7 100 4) := ⟨_, rfl⟩
                refine wVv (As := [.int k_676, .int 11, .int 7, .int 100, .int 4]) (rest := []) e_754 ⟨hx, hb, hml, hown, hts⟩ (mc_StepMachineModel_lay l D tc tb z0 _ b_x b_row b_part b_mem b_mrk b_sf b_ss b_sr b_h b_r b_in b_out b_k m_on m_hc m_pc m_giv m_tak m_put m_st m_cu m_va m_sp m_un m_kc m_kn m_by m_kd m_tg m_ju q_705 k_676 11 7 100 4 (k75 hq c_679 (by decide)) (by decide) (by decide)) (cwV 5 hts (goodV a_603 a_604 a_912 a_10 a_605) rfl rfl rfl hv_M_lay ⟨Nat.le_of_ble_eq_true rfl, Nat.le_of_ble_eq_true rfl⟩) hP hD hS hA hZ hK hB [0, 1] rfl (by decide) (fun _ => rfl) rfl rfl rfl hl.1 rfl (Nat.le_of_ble_eq_true rfl) d_M_layShort_754 ⟨Nat.zero_le _, Nat.zero_le _⟩ (fun H locs hP hD hS => ?_)
                have hP : va_P D vwCl [(b_x, .inr (9, [.ref b_row, .ref b_part, .ref b_mem, .ref b_mrk, .ref b_sf, .ref b_ss, .ref b_sr, .int m_on, .ref b_h, .int m_hc, .ref b_r, .int m_pc, .ref b_in, .int m_giv, .int m_tak, .ref b_out, .int m_put, .int m_st, .int m_cu, .int m_va, .int m_sp, .int m_un, .ref b_k, .int m_kc, .int m_kn, .int m_by, .int m_kd, .int m_tg, .int m_ju])), (b_row, .inl (tc 0, 2400, .inl q_754))] H := hP
                have hD : va_D A [(b_x, .inr (9, [.ref b_row, .ref b_part, .ref b_mem, .ref b_mrk, .ref b_sf, .ref b_ss, .ref b_sr, .int m_on, .ref b_h, .int m_hc, .ref b_r, .int m_pc, .ref b_in, .int m_giv, .int m_tak, .ref b_out, .int m_put, .int m_st, .int m_cu, .int m_va, .int m_sp, .int m_un, .ref b_k, .int m_kc, .int m_kn, .int m_by, .int m_kd, .int m_tg, .int m_ju])), (b_row, .inl (tc 0, 2400, .inl q_754))] := hD
                refine lv_iload_n hx hb d_M_layShort_757 rfl (lv_at hl 0 rfl) ?_
                refine lv_bipush (v := 70) hx hb d_M_layShort_758 (by decide) ?_
                refine lv_icmp_eq (tgt := 769) hx hb d_M_layShort_760 (by decide) (fun c_760 => ?_) (fun c_760 => absurd c_736 c_760)
                refine lv_aload_n hx hb d_M_layShort_769 rfl (lv_at hl 1 rfl) ?_
                refine lv_iload_n hx hb d_M_layShort_770 rfl (lv_at hl 0 rfl) ?_
                refine lv_bipush (v := 6) hx hb d_M_layShort_771 (by decide) ?_
                refine lv_iconst (v := 2) hx hb d_M_layShort_773 (by decide) ?_
                refine lv_sipush (v := 300) hx hb d_M_layShort_774 (by decide) ?_
                refine lv_iconst (v := 4) hx hb d_M_layShort_777 (by decide) ?_
                obtain ⟨q_778, e_778⟩ : ∃ z, z = (mF_StepMachineModel_lay q_754 k_676 6 2 300 4) := ⟨_, rfl⟩
                refine wVv (As := [.int k_676, .int 6, .int 2, .int 300, .int 4]) (rest := []) e_778 ⟨hx, hb, hml, hown, hts⟩ (mc_StepMachineModel_lay l D tc tb z0 _ b_x b_row b_part b_mem b_mrk b_sf b_ss b_sr b_h b_r b_in b_out b_k m_on m_hc m_pc m_giv m_tak m_put m_st m_cu m_va m_sp m_un m_kc m_kn m_by m_kd m_tg m_ju q_754 k_676 6 2 300 4 (k75 hq c_679 (by decide)) (by decide) (by decide)) (cwV 5 hts (goodV a_603 a_604 a_912 a_10 a_605) rfl rfl rfl hv_M_lay ⟨Nat.le_of_ble_eq_true rfl, Nat.le_of_ble_eq_true rfl⟩) hP hD hS hA hZ hK hB [0, 1] rfl (by decide) (fun _ => rfl) rfl rfl rfl hl.1 rfl (Nat.le_of_ble_eq_true rfl) d_M_layShort_778 ⟨Nat.zero_le _, Nat.zero_le _⟩ (fun H locs hP hD hS => ?_)
                have hP : va_P D vwCl [(b_x, .inr (9, [.ref b_row, .ref b_part, .ref b_mem, .ref b_mrk, .ref b_sf, .ref b_ss, .ref b_sr, .int m_on, .ref b_h, .int m_hc, .ref b_r, .int m_pc, .ref b_in, .int m_giv, .int m_tak, .ref b_out, .int m_put, .int m_st, .int m_cu, .int m_va, .int m_sp, .int m_un, .ref b_k, .int m_kc, .int m_kn, .int m_by, .int m_kd, .int m_tg, .int m_ju])), (b_row, .inl (tc 0, 2400, .inl q_778))] H := hP
                have hD : va_D A [(b_x, .inr (9, [.ref b_row, .ref b_part, .ref b_mem, .ref b_mrk, .ref b_sf, .ref b_ss, .ref b_sr, .int m_on, .ref b_h, .int m_hc, .ref b_r, .int m_pc, .ref b_in, .int m_giv, .int m_tak, .ref b_out, .int m_put, .int m_st, .int m_cu, .int m_va, .int m_sp, .int m_un, .ref b_k, .int m_kc, .int m_kn, .int m_by, .int m_kd, .int m_tg, .int m_ju])), (b_row, .inl (tc 0, 2400, .inl q_778))] := hD
                refine lv_iinc (v := (k_676 + 1)) (lv' := [(1, .int (k_676 + 1)), (0, .ref b_x)]) hx hb d_M_layShort_781 hl (k := 0) rfl rfl (by decide) rfl (fun ls hl => ?_)
                refine lv_goto (tgt := 676) hx hb d_M_layShort_784 (by decide) ?_
                exact ih_676 (k_676 + 1) q_778 _ _ ls (st_nn c_679 hq) (ms_step c_679 hm_676) (by have h := hX_676; rw [mF_StepMachineModel_layShort_L676, if_neg c_679, ← e_686, mF_StepMachineModel_layShort_80, if_neg c_697, ← e_705, mF_StepMachineModel_layShort_88, if_neg c_711, if_neg c_717, if_pos c_736, ← e_754, mF_StepMachineModel_layShort_90, ← e_778, mF_StepMachineModel_layShort_91] at h; exact h) hP hD hS (lv_sub hl [0, 1] rfl)
              · skip
                refine lv_iload_n hx hb d_M_layShort_739 rfl (lv_at hl 0 rfl) ?_
                refine lv_bipush (v := 73) hx hb d_M_layShort_740 (by decide) ?_
                refine lv_icmp_ne (tgt := 757) hx hb d_M_layShort_742 (by decide) (fun c_742 => ?_) (fun c_742 => ?_)
                · skip
                  refine lv_iload_n hx hb d_M_layShort_757 rfl (lv_at hl 0 rfl) ?_
                  refine lv_bipush (v := 70) hx hb d_M_layShort_758 (by decide) ?_
                  refine lv_icmp_eq (tgt := 769) hx hb d_M_layShort_760 (by decide) (fun c_760 => absurd c_760 c_736) (fun c_760 => ?_)
                  refine lv_iload_n hx hb d_M_layShort_763 rfl (lv_at hl 0 rfl) ?_
                  refine lv_bipush (v := 73) hx hb d_M_layShort_764 (by decide) ?_
                  refine lv_icmp_ne (tgt := 781) hx hb d_M_layShort_766 (by decide) (fun c_766 => ?_) (fun c_766 => absurd c_766 c_742)
                  refine lv_iinc (v := (k_676 + 1)) (lv' := [(1, .int (k_676 + 1)), (0, .ref b_x)]) hx hb d_M_layShort_781 hl (k := 0) rfl rfl (by decide) rfl (fun ls hl => ?_)
                  refine lv_goto (tgt := 676) hx hb d_M_layShort_784 (by decide) ?_
                  exact ih_676 (k_676 + 1) q_705 _ _ ls (st_nn c_679 hq) (ms_step c_679 hm_676) (by have h := hX_676; rw [mF_StepMachineModel_layShort_L676, if_neg c_679, ← e_686, mF_StepMachineModel_layShort_80, if_neg c_697, ← e_705, mF_StepMachineModel_layShort_88, if_neg c_711, if_neg c_717, if_neg c_736, if_neg c_742] at h; exact h) hP hD hS (lv_sub hl [0, 1] rfl)
                · skip
                  refine lv_aload_n hx hb d_M_layShort_745 rfl (lv_at hl 1 rfl) ?_
                  refine lv_iload_n hx hb d_M_layShort_746 rfl (lv_at hl 0 rfl) ?_
                  refine lv_bipush (v := 11) hx hb d_M_layShort_747 (by decide) ?_
                  refine lv_bipush (v := 7) hx hb d_M_layShort_749 (by decide) ?_
                  refine lv_bipush (v := 100) hx hb d_M_layShort_751 (by decide) ?_
                  refine lv_iconst (v := 4) hx hb d_M_layShort_753 (by decide) ?_
                  obtain ⟨q_754, e_754⟩ : ∃ z, z = (mF_StepMachineModel_lay q_705 k_676 11 7 100 4) := ⟨_, rfl⟩
                  refine wVv (As := [.int k_676, .int 11, .int 7, .int 100, .int 4]) (rest := []) e_754 ⟨hx, hb, hml, hown, hts⟩ (mc_StepMachineModel_lay l D tc tb z0 _ b_x b_row b_part b_mem b_mrk b_sf b_ss b_sr b_h b_r b_in b_out b_k m_on m_hc m_pc m_giv m_tak m_put m_st m_cu m_va m_sp m_un m_kc m_kn m_by m_kd m_tg m_ju q_705 k_676 11 7 100 4 (k75 hq c_679 (by decide)) (by decide) (by decide)) (cwV 5 hts (goodV a_603 a_604 a_912 a_10 a_605) rfl rfl rfl hv_M_lay ⟨Nat.le_of_ble_eq_true rfl, Nat.le_of_ble_eq_true rfl⟩) hP hD hS hA hZ hK hB [0, 1] rfl (by decide) (fun _ => rfl) rfl rfl rfl hl.1 rfl (Nat.le_of_ble_eq_true rfl) d_M_layShort_754 ⟨Nat.zero_le _, Nat.zero_le _⟩ (fun H locs hP hD hS => ?_)
                  have hP : va_P D vwCl [(b_x, .inr (9, [.ref b_row, .ref b_part, .ref b_mem, .ref b_mrk, .ref b_sf, .ref b_ss, .ref b_sr, .int m_on, .ref b_h, .int m_hc, .ref b_r, .int m_pc, .ref b_in, .int m_giv, .int m_tak, .ref b_out, .int m_put, .int m_st, .int m_cu, .int m_va, .int m_sp, .int m_un, .ref b_k, .int m_kc, .int m_kn, .int m_by, .int m_kd, .int m_tg, .int m_ju])), (b_row, .inl (tc 0, 2400, .inl q_754))] H := hP
                  have hD : va_D A [(b_x, .inr (9, [.ref b_row, .ref b_part, .ref b_mem, .ref b_mrk, .ref b_sf, .ref b_ss, .ref b_sr, .int m_on, .ref b_h, .int m_hc, .ref b_r, .int m_pc, .ref b_in, .int m_giv, .int m_tak, .ref b_out, .int m_put, .int m_st, .int m_cu, .int m_va, .int m_sp, .int m_un, .ref b_k, .int m_kc, .int m_kn, .int m_by, .int m_kd, .int m_tg, .int m_ju])), (b_row, .inl (tc 0, 2400, .inl q_754))] := hD
                  refine lv_iload_n hx hb d_M_layShort_757 rfl (lv_at hl 0 rfl) ?_
                  refine lv_bipush (v := 70) hx hb d_M_layShort_758 (by decide) ?_
                  refine lv_icmp_eq (tgt := 769) hx hb d_M_layShort_760 (by decide) (fun c_760 => absurd c_760 c_736) (fun c_760 => ?_)
                  refine lv_iload_n hx hb d_M_layShort_763 rfl (lv_at hl 0 rfl) ?_
                  refine lv_bipush (v := 73) hx hb d_M_layShort_764 (by decide) ?_
                  refine lv_icmp_ne (tgt := 781) hx hb d_M_layShort_766 (by decide) (fun c_766 => absurd c_742 c_766) (fun c_766 => ?_)
                  refine lv_aload_n hx hb d_M_layShort_769 rfl (lv_at hl 1 rfl) ?_
                  refine lv_iload_n hx hb d_M_layShort_770 rfl (lv_at hl 0 rfl) ?_
                  refine lv_bipush (v := 6) hx hb d_M_layShort_771 (by decide) ?_
                  refine lv_iconst (v := 2) hx hb d_M_layShort_773 (by decide) ?_
                  refine lv_sipush (v := 300) hx hb d_M_layShort_774 (by decide) ?_
                  refine lv_iconst (v := 4) hx hb d_M_layShort_777 (by decide) ?_
                  obtain ⟨q_778, e_778⟩ : ∃ z, z = (mF_StepMachineModel_lay q_754 k_676 6 2 300 4) := ⟨_, rfl⟩
                  refine wVv (As := [.int k_676, .int 6, .int 2, .int 300, .int 4]) (rest := []) e_778 ⟨hx, hb, hml, hown, hts⟩ (mc_StepMachineModel_lay l D tc tb z0 _ b_x b_row b_part b_mem b_mrk b_sf b_ss b_sr b_h b_r b_in b_out b_k m_on m_hc m_pc m_giv m_tak m_put m_st m_cu m_va m_sp m_un m_kc m_kn m_by m_kd m_tg m_ju q_754 k_676 6 2 300 4 (k75 hq c_679 (by decide)) (by decide) (by decide)) (cwV 5 hts (goodV a_603 a_604 a_912 a_10 a_605) rfl rfl rfl hv_M_lay ⟨Nat.le_of_ble_eq_true rfl, Nat.le_of_ble_eq_true rfl⟩) hP hD hS hA hZ hK hB [0, 1] rfl (by decide) (fun _ => rfl) rfl rfl rfl hl.1 rfl (Nat.le_of_ble_eq_true rfl) d_M_layShort_778 ⟨Nat.zero_le _, Nat.zero_le _⟩ (fun H locs hP hD hS => ?_)
                  have hP : va_P D vwCl [(b_x, .inr (9, [.ref b_row, .ref b_part, .ref b_mem, .ref b_mrk, .ref b_sf, .ref b_ss, .ref b_sr, .int m_on, .ref b_h, .int m_hc, .ref b_r, .int m_pc, .ref b_in, .int m_giv, .int m_tak, .ref b_out, .int m_put, .int m_st, .int m_cu, .int m_va, .int m_sp, .int m_un, .ref b_k, .int m_kc, .int m_kn, .int m_by, .int m_kd, .int m_tg, .int m_ju])), (b_row, .inl (tc 0, 2400, .inl q_778))] H := hP
                  have hD : va_D A [(b_x, .inr (9, [.ref b_row, .ref b_part, .ref b_mem, .ref b_mrk, .ref b_sf, .ref b_ss, .ref b_sr, .int m_on, .ref b_h, .int m_hc, .ref b_r, .int m_pc, .ref b_in, .int m_giv, .int m_tak, .ref b_out, .int m_put, .int m_st, .int m_cu, .int m_va, .int m_sp, .int m_un, .ref b_k, .int m_kc, .int m_kn, .int m_by, .int m_kd, .int m_tg, .int m_ju])), (b_row, .inl (tc 0, 2400, .inl q_778))] := hD
                  refine lv_iinc (v := (k_676 + 1)) (lv' := [(1, .int (k_676 + 1)), (0, .ref b_x)]) hx hb d_M_layShort_781 hl (k := 0) rfl rfl (by decide) rfl (fun ls hl => ?_)
                  refine lv_goto (tgt := 676) hx hb d_M_layShort_784 (by decide) ?_
                  exact ih_676 (k_676 + 1) q_778 _ _ ls (st_nn c_679 hq) (ms_step c_679 hm_676) (by have h := hX_676; rw [mF_StepMachineModel_layShort_L676, if_neg c_679, ← e_686, mF_StepMachineModel_layShort_80, if_neg c_697, ← e_705, mF_StepMachineModel_layShort_88, if_neg c_711, if_neg c_717, if_neg c_736, if_pos c_742, ← e_754, mF_StepMachineModel_layShort_92, ← e_778, mF_StepMachineModel_layShort_93] at h; exact h) hP hD hS (lv_sub hl [0, 1] rfl)
            · skip
              refine lv_aload_n hx hb d_M_layShort_720 rfl (lv_at hl 1 rfl) ?_
              refine lv_iload_n hx hb d_M_layShort_721 rfl (lv_at hl 0 rfl) ?_
              refine lv_bipush (v := 11) hx hb d_M_layShort_722 (by decide) ?_
              refine lv_bipush (v := 7) hx hb d_M_layShort_724 (by decide) ?_
              refine lv_sipush (v := 200) hx hb d_M_layShort_726 (by decide) ?_
              refine lv_iconst (v := 4) hx hb d_M_layShort_729 (by decide) ?_
              obtain ⟨q_730, e_730⟩ : ∃ z, z = (mF_StepMachineModel_lay q_705 k_676 11 7 200 4) := ⟨_, rfl⟩
              refine wVv (As := [.int k_676, .int 11, .int 7, .int 200, .int 4]) (rest := []) e_730 ⟨hx, hb, hml, hown, hts⟩ (mc_StepMachineModel_lay l D tc tb z0 _ b_x b_row b_part b_mem b_mrk b_sf b_ss b_sr b_h b_r b_in b_out b_k m_on m_hc m_pc m_giv m_tak m_put m_st m_cu m_va m_sp m_un m_kc m_kn m_by m_kd m_tg m_ju q_705 k_676 11 7 200 4 (k75 hq c_679 (by decide)) (by decide) (by decide)) (cwV 5 hts (goodV a_603 a_604 a_912 a_10 a_605) rfl rfl rfl hv_M_lay ⟨Nat.le_of_ble_eq_true rfl, Nat.le_of_ble_eq_true rfl⟩) hP hD hS hA hZ hK hB [0, 1] rfl (by decide) (fun _ => rfl) rfl rfl rfl hl.1 rfl (Nat.le_of_ble_eq_true rfl) d_M_layShort_730 ⟨Nat.zero_le _, Nat.zero_le _⟩ (fun H locs hP hD hS => ?_)
              have hP : va_P D vwCl [(b_x, .inr (9, [.ref b_row, .ref b_part, .ref b_mem, .ref b_mrk, .ref b_sf, .ref b_ss, .ref b_sr, .int m_on, .ref b_h, .int m_hc, .ref b_r, .int m_pc, .ref b_in, .int m_giv, .int m_tak, .ref b_out, .int m_put, .int m_st, .int m_cu, .int m_va, .int m_sp, .int m_un, .ref b_k, .int m_kc, .int m_kn, .int m_by, .int m_kd, .int m_tg, .int m_ju])), (b_row, .inl (tc 0, 2400, .inl q_730))] H := hP
              have hD : va_D A [(b_x, .inr (9, [.ref b_row, .ref b_part, .ref b_mem, .ref b_mrk, .ref b_sf, .ref b_ss, .ref b_sr, .int m_on, .ref b_h, .int m_hc, .ref b_r, .int m_pc, .ref b_in, .int m_giv, .int m_tak, .ref b_out, .int m_put, .int m_st, .int m_cu, .int m_va, .int m_sp, .int m_un, .ref b_k, .int m_kc, .int m_kn, .int m_by, .int m_kd, .int m_tg, .int m_ju])), (b_row, .inl (tc 0, 2400, .inl q_730))] := hD
              refine lv_iload_n hx hb d_M_layShort_733 rfl (lv_at hl 0 rfl) ?_
              refine lv_bipush (v := 70) hx hb d_M_layShort_734 (by decide) ?_
              refine lv_icmp_eq (tgt := 745) hx hb d_M_layShort_736 (by decide) (fun c_736 => absurd c_736 (by rw [c_717]; decide)) (fun c_736 => ?_)
              refine lv_iload_n hx hb d_M_layShort_739 rfl (lv_at hl 0 rfl) ?_
              refine lv_bipush (v := 73) hx hb d_M_layShort_740 (by decide) ?_
              refine lv_icmp_ne (tgt := 757) hx hb d_M_layShort_742 (by decide) (fun c_742 => ?_) (fun c_742 => absurd c_742 (by rw [c_717]; decide))
              refine lv_iload_n hx hb d_M_layShort_757 rfl (lv_at hl 0 rfl) ?_
              refine lv_bipush (v := 70) hx hb d_M_layShort_758 (by decide) ?_
              refine lv_icmp_eq (tgt := 769) hx hb d_M_layShort_760 (by decide) (fun c_760 => absurd c_760 (by rw [c_717]; decide)) (fun c_760 => ?_)
              refine lv_iload_n hx hb d_M_layShort_763 rfl (lv_at hl 0 rfl) ?_
              refine lv_bipush (v := 73) hx hb d_M_layShort_764 (by decide) ?_
              refine lv_icmp_ne (tgt := 781) hx hb d_M_layShort_766 (by decide) (fun c_766 => ?_) (fun c_766 => absurd c_766 (by rw [c_717]; decide))
              refine lv_iinc (v := (k_676 + 1)) (lv' := [(1, .int (k_676 + 1)), (0, .ref b_x)]) hx hb d_M_layShort_781 hl (k := 0) rfl rfl (by decide) rfl (fun ls hl => ?_)
              refine lv_goto (tgt := 676) hx hb d_M_layShort_784 (by decide) ?_
              exact ih_676 (k_676 + 1) q_730 _ _ ls (st_nn c_679 hq) (ms_step c_679 hm_676) (by have h := hX_676; rw [mF_StepMachineModel_layShort_L676, if_neg c_679, ← e_686, mF_StepMachineModel_layShort_80, if_neg c_697, ← e_705, mF_StepMachineModel_layShort_88, if_neg c_711, if_pos c_717, ← e_730, mF_StepMachineModel_layShort_94] at h; exact h) hP hD hS (lv_sub hl [0, 1] rfl)
  obtain ⟨q_676, e_676⟩ : ∃ z, z = (mF_StepMachineModel_layShort_L676 (((74 : Int32).toInt - (69 : Int32).toInt).toNat + 1) (69 : Int32) q_670) := ⟨_, rfl⟩
  refine loop_676 (((74 : Int32).toInt - (69 : Int32).toInt).toNat + 1) (69 : Int32) q_670 _ _ ls (by decide) (Nat.lt_succ_self _) ?_ hP hD hS (lv_sub hl [0, 1] rfl)
  rw [← e_676]
  intro H locs ls hq hP hD hS hl
  have hP : va_P D vwCl [(b_x, .inr (9, [.ref b_row, .ref b_part, .ref b_mem, .ref b_mrk, .ref b_sf, .ref b_ss, .ref b_sr, .int m_on, .ref b_h, .int m_hc, .ref b_r, .int m_pc, .ref b_in, .int m_giv, .int m_tak, .ref b_out, .int m_put, .int m_st, .int m_cu, .int m_va, .int m_sp, .int m_un, .ref b_k, .int m_kc, .int m_kn, .int m_by, .int m_kd, .int m_tg, .int m_ju])), (b_row, .inl (tc 0, 2400, .inl q_676.2))] H := hP
  have hD : va_D A [(b_x, .inr (9, [.ref b_row, .ref b_part, .ref b_mem, .ref b_mrk, .ref b_sf, .ref b_ss, .ref b_sr, .int m_on, .ref b_h, .int m_hc, .ref b_r, .int m_pc, .ref b_in, .int m_giv, .int m_tak, .ref b_out, .int m_put, .int m_st, .int m_cu, .int m_va, .int m_sp, .int m_un, .ref b_k, .int m_kc, .int m_kn, .int m_by, .int m_kd, .int m_tg, .int m_ju])), (b_row, .inl (tc 0, 2400, .inl q_676.2))] := hD
  have hl : lv_has ls 2 [(1, .int q_676.1), (0, .ref b_x)] := hl
  refine lv_aload_n hx hb d_M_layShort_787 rfl (lv_at hl 1 rfl) ?_
  refine lv_bipush (v := 74) hx hb d_M_layShort_788 (by decide) ?_
  refine lv_bipush (v := 6) hx hb d_M_layShort_790 (by decide) ?_
  refine lv_iconst (v := 2) hx hb d_M_layShort_792 (by decide) ?_
  obtain ⟨q_793, e_793⟩ : ∃ z, z = (mF_StepMachineModel_ends q_676.2 74 6 2) := ⟨_, rfl⟩
  refine wVv (As := [.int 74, .int 6, .int 2]) (rest := []) e_793 ⟨hx, hb, hml, hown, hts⟩ (mc_StepMachineModel_ends l D tc tb z0 _ b_x b_row b_part b_mem b_mrk b_sf b_ss b_sr b_h b_r b_in b_out b_k m_on m_hc m_pc m_giv m_tak m_put m_st m_cu m_va m_sp m_un m_kc m_kn m_by m_kd m_tg m_ju q_676.2 74 6 2 (by decide)) (cwV 3 hts (goodV a_624 a_625 a_914 a_10 a_626) rfl rfl rfl hv_M_ends ⟨Nat.le_of_ble_eq_true rfl, Nat.le_of_ble_eq_true rfl⟩) hP hD hS hA hZ hK hB [0, 1] rfl (by decide) (fun _ => rfl) rfl rfl rfl hl.1 rfl (Nat.le_of_ble_eq_true rfl) d_M_layShort_793 ⟨Nat.zero_le _, Nat.zero_le _⟩ (fun H locs hP hD hS => ?_)
  have hP : va_P D vwCl [(b_x, .inr (9, [.ref b_row, .ref b_part, .ref b_mem, .ref b_mrk, .ref b_sf, .ref b_ss, .ref b_sr, .int m_on, .ref b_h, .int m_hc, .ref b_r, .int m_pc, .ref b_in, .int m_giv, .int m_tak, .ref b_out, .int m_put, .int m_st, .int m_cu, .int m_va, .int m_sp, .int m_un, .ref b_k, .int m_kc, .int m_kn, .int m_by, .int m_kd, .int m_tg, .int m_ju])), (b_row, .inl (tc 0, 2400, .inl q_793))] H := hP
  have hD : va_D A [(b_x, .inr (9, [.ref b_row, .ref b_part, .ref b_mem, .ref b_mrk, .ref b_sf, .ref b_ss, .ref b_sr, .int m_on, .ref b_h, .int m_hc, .ref b_r, .int m_pc, .ref b_in, .int m_giv, .int m_tak, .ref b_out, .int m_put, .int m_st, .int m_cu, .int m_va, .int m_sp, .int m_un, .ref b_k, .int m_kc, .int m_kn, .int m_by, .int m_kd, .int m_tg, .int m_ju])), (b_row, .inl (tc 0, 2400, .inl q_793))] := hD
  refine lv_aload_n hx hb d_M_layShort_796 rfl (lv_at hl 1 rfl) ?_
  refine lv_bipush (v := 74) hx hb d_M_layShort_797 (by decide) ?_
  refine lv_bipush (v := 12) hx hb d_M_layShort_799 (by decide) ?_
  refine lv_bipush (v := 9) hx hb d_M_layShort_801 (by decide) ?_
  refine lv_sipush (v := 400) hx hb d_M_layShort_803 (by decide) ?_
  refine lv_iconst (v := 5) hx hb d_M_layShort_806 (by decide) ?_
  obtain ⟨q_807, e_807⟩ : ∃ z, z = (mF_StepMachineModel_lay q_793 74 12 9 400 5) := ⟨_, rfl⟩
  refine wVv (As := [.int 74, .int 12, .int 9, .int 400, .int 5]) (rest := []) e_807 ⟨hx, hb, hml, hown, hts⟩ (mc_StepMachineModel_lay l D tc tb z0 _ b_x b_row b_part b_mem b_mrk b_sf b_ss b_sr b_h b_r b_in b_out b_k m_on m_hc m_pc m_giv m_tak m_put m_st m_cu m_va m_sp m_un m_kc m_kn m_by m_kd m_tg m_ju q_793 74 12 9 400 5 (by decide) (by decide) (by decide)) (cwV 5 hts (goodV a_603 a_604 a_912 a_10 a_605) rfl rfl rfl hv_M_lay ⟨Nat.le_of_ble_eq_true rfl, Nat.le_of_ble_eq_true rfl⟩) hP hD hS hA hZ hK hB [0, 1] rfl (by decide) (fun _ => rfl) rfl rfl rfl hl.1 rfl (Nat.le_of_ble_eq_true rfl) d_M_layShort_807 ⟨Nat.zero_le _, Nat.zero_le _⟩ (fun H locs hP hD hS => ?_)
  have hP : va_P D vwCl [(b_x, .inr (9, [.ref b_row, .ref b_part, .ref b_mem, .ref b_mrk, .ref b_sf, .ref b_ss, .ref b_sr, .int m_on, .ref b_h, .int m_hc, .ref b_r, .int m_pc, .ref b_in, .int m_giv, .int m_tak, .ref b_out, .int m_put, .int m_st, .int m_cu, .int m_va, .int m_sp, .int m_un, .ref b_k, .int m_kc, .int m_kn, .int m_by, .int m_kd, .int m_tg, .int m_ju])), (b_row, .inl (tc 0, 2400, .inl q_807))] H := hP
  have hD : va_D A [(b_x, .inr (9, [.ref b_row, .ref b_part, .ref b_mem, .ref b_mrk, .ref b_sf, .ref b_ss, .ref b_sr, .int m_on, .ref b_h, .int m_hc, .ref b_r, .int m_pc, .ref b_in, .int m_giv, .int m_tak, .ref b_out, .int m_put, .int m_st, .int m_cu, .int m_va, .int m_sp, .int m_un, .ref b_k, .int m_kc, .int m_kn, .int m_by, .int m_kd, .int m_tg, .int m_ju])), (b_row, .inl (tc 0, 2400, .inl q_807))] := hD
  refine lv_aload_n hx hb d_M_layShort_810 rfl (lv_at hl 1 rfl) ?_
  refine lv_bipush (v := 74) hx hb d_M_layShort_811 (by decide) ?_
  refine lv_bipush (v := 8) hx hb d_M_layShort_813 (by decide) ?_
  refine lv_bipush (v := 7) hx hb d_M_layShort_815 (by decide) ?_
  refine lv_sipush (v := 400) hx hb d_M_layShort_817 (by decide) ?_
  refine lv_bipush (v := 7) hx hb d_M_layShort_820 (by decide) ?_
  obtain ⟨q_822, e_822⟩ : ∃ z, z = (mF_StepMachineModel_lay q_807 74 8 7 400 7) := ⟨_, rfl⟩
  refine wVv (As := [.int 74, .int 8, .int 7, .int 400, .int 7]) (rest := []) e_822 ⟨hx, hb, hml, hown, hts⟩ (mc_StepMachineModel_lay l D tc tb z0 _ b_x b_row b_part b_mem b_mrk b_sf b_ss b_sr b_h b_r b_in b_out b_k m_on m_hc m_pc m_giv m_tak m_put m_st m_cu m_va m_sp m_un m_kc m_kn m_by m_kd m_tg m_ju q_807 74 8 7 400 7 (by decide) (by decide) (by decide)) (cwV 5 hts (goodV a_603 a_604 a_912 a_10 a_605) rfl rfl rfl hv_M_lay ⟨Nat.le_of_ble_eq_true rfl, Nat.le_of_ble_eq_true rfl⟩) hP hD hS hA hZ hK hB [0, 1] rfl (by decide) (fun _ => rfl) rfl rfl rfl hl.1 rfl (Nat.le_of_ble_eq_true rfl) d_M_layShort_822 ⟨Nat.zero_le _, Nat.zero_le _⟩ (fun H locs hP hD hS => ?_)
  have hP : va_P D vwCl [(b_x, .inr (9, [.ref b_row, .ref b_part, .ref b_mem, .ref b_mrk, .ref b_sf, .ref b_ss, .ref b_sr, .int m_on, .ref b_h, .int m_hc, .ref b_r, .int m_pc, .ref b_in, .int m_giv, .int m_tak, .ref b_out, .int m_put, .int m_st, .int m_cu, .int m_va, .int m_sp, .int m_un, .ref b_k, .int m_kc, .int m_kn, .int m_by, .int m_kd, .int m_tg, .int m_ju])), (b_row, .inl (tc 0, 2400, .inl q_822))] H := hP
  have hD : va_D A [(b_x, .inr (9, [.ref b_row, .ref b_part, .ref b_mem, .ref b_mrk, .ref b_sf, .ref b_ss, .ref b_sr, .int m_on, .ref b_h, .int m_hc, .ref b_r, .int m_pc, .ref b_in, .int m_giv, .int m_tak, .ref b_out, .int m_put, .int m_st, .int m_cu, .int m_va, .int m_sp, .int m_un, .ref b_k, .int m_kc, .int m_kn, .int m_by, .int m_kd, .int m_tg, .int m_ju])), (b_row, .inl (tc 0, 2400, .inl q_822))] := hD
  refine lv_aload_n hx hb d_M_layShort_825 rfl (lv_at hl 1 rfl) ?_
  refine lv_bipush (v := 74) hx hb d_M_layShort_826 (by decide) ?_
  refine lv_bipush (v := 6) hx hb d_M_layShort_828 (by decide) ?_
  refine lv_iconst (v := 2) hx hb d_M_layShort_830 (by decide) ?_
  refine lv_sipush (v := 300) hx hb d_M_layShort_831 (by decide) ?_
  refine lv_iconst (v := 4) hx hb d_M_layShort_834 (by decide) ?_
  obtain ⟨q_835, e_835⟩ : ∃ z, z = (mF_StepMachineModel_lay q_822 74 6 2 300 4) := ⟨_, rfl⟩
  refine wVv (As := [.int 74, .int 6, .int 2, .int 300, .int 4]) (rest := []) e_835 ⟨hx, hb, hml, hown, hts⟩ (mc_StepMachineModel_lay l D tc tb z0 _ b_x b_row b_part b_mem b_mrk b_sf b_ss b_sr b_h b_r b_in b_out b_k m_on m_hc m_pc m_giv m_tak m_put m_st m_cu m_va m_sp m_un m_kc m_kn m_by m_kd m_tg m_ju q_822 74 6 2 300 4 (by decide) (by decide) (by decide)) (cwV 5 hts (goodV a_603 a_604 a_912 a_10 a_605) rfl rfl rfl hv_M_lay ⟨Nat.le_of_ble_eq_true rfl, Nat.le_of_ble_eq_true rfl⟩) hP hD hS hA hZ hK hB [0, 1] rfl (by decide) (fun _ => rfl) rfl rfl rfl hl.1 rfl (Nat.le_of_ble_eq_true rfl) d_M_layShort_835 ⟨Nat.zero_le _, Nat.zero_le _⟩ (fun H locs hP hD hS => ?_)
  have hP : va_P D vwCl [(b_x, .inr (9, [.ref b_row, .ref b_part, .ref b_mem, .ref b_mrk, .ref b_sf, .ref b_ss, .ref b_sr, .int m_on, .ref b_h, .int m_hc, .ref b_r, .int m_pc, .ref b_in, .int m_giv, .int m_tak, .ref b_out, .int m_put, .int m_st, .int m_cu, .int m_va, .int m_sp, .int m_un, .ref b_k, .int m_kc, .int m_kn, .int m_by, .int m_kd, .int m_tg, .int m_ju])), (b_row, .inl (tc 0, 2400, .inl q_835))] H := hP
  have hD : va_D A [(b_x, .inr (9, [.ref b_row, .ref b_part, .ref b_mem, .ref b_mrk, .ref b_sf, .ref b_ss, .ref b_sr, .int m_on, .ref b_h, .int m_hc, .ref b_r, .int m_pc, .ref b_in, .int m_giv, .int m_tak, .ref b_out, .int m_put, .int m_st, .int m_cu, .int m_va, .int m_sp, .int m_un, .ref b_k, .int m_kc, .int m_kn, .int m_by, .int m_kd, .int m_tg, .int m_ju])), (b_row, .inl (tc 0, 2400, .inl q_835))] := hD
  exact W.vret hx hb hr (fun t ht hW => ⟨⟨q_835, rfl, by rw [mF_StepMachineModel_layShort, ← e_5, mF_StepMachineModel_layShort_1, ← e_19, mF_StepMachineModel_layShort_2, ← e_34, mF_StepMachineModel_layShort_3, ← e_43, mF_StepMachineModel_layShort_4, ← e_51, mF_StepMachineModel_layShort_5, ← e_63, mF_StepMachineModel_layShort_6, ← e_69, mF_StepMachineModel_layShort_19, ← e_171, mF_StepMachineModel_layShort_20, ← e_177, mF_StepMachineModel_layShort_33, ← e_267, mF_StepMachineModel_layShort_34, ← e_274, mF_StepMachineModel_layShort_35, ← e_282, mF_StepMachineModel_layShort_36, ← e_292, mF_StepMachineModel_layShort_37, ← e_302, mF_StepMachineModel_layShort_38, ← e_311, mF_StepMachineModel_layShort_39, ← e_320, mF_StepMachineModel_layShort_40, ← e_333, mF_StepMachineModel_layShort_41, ← e_341, mF_StepMachineModel_layShort_42, ← e_347, mF_StepMachineModel_layShort_50, ← e_420, mF_StepMachineModel_layShort_56, ← e_486, mF_StepMachineModel_layShort_71, ← e_588, mF_StepMachineModel_layShort_72, ← e_601, mF_StepMachineModel_layShort_73, ← e_614, mF_StepMachineModel_layShort_74, ← e_622, mF_StepMachineModel_layShort_75, ← e_631, mF_StepMachineModel_layShort_76, ← e_644, mF_StepMachineModel_layShort_77, ← e_657, mF_StepMachineModel_layShort_78, ← e_670, mF_StepMachineModel_layShort_79, ← e_676, mF_StepMachineModel_layShort_95, ← e_793, mF_StepMachineModel_layShort_96, ← e_807, mF_StepMachineModel_layShort_97, ← e_822, mF_StepMachineModel_layShort_98, ← e_835, mF_StepMachineModel_layShort_99], by rw [ht]; exact hP, va_K.moved hW.alike hK, hD⟩, hS.F ht⟩) hS.2.2 d_M_layShort_838
