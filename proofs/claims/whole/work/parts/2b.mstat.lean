def mF_StepMachineModel_bitsOf (x0 : Int32) : Int32 := (if 48 ≤ x0 then 16 else 32)
set_option maxHeartbeats 4000000 in
set_option maxRecDepth 100000 in
theorem mc_StepMachineModel_bitsOf (l : Launch) (D : va_G) (tc : Nat → ClassId) (tb : Nat → Nat) (z0 : Nat) (x0 : Int32) : Met l y_M_bitsOf (wM y_M_bitsOf b_M_bitsOf 1 (some .int)) ({ frames := 0, cells := 0, slots := 0, locals := 0 }) (va_Pc [.int x0] (Pr D tc tb z0 [])) (vp_Si (fun r => r = (mF_StepMachineModel_bitsOf x0))) 0 0 (fun _ => False) := by
  refine Met.ofW (cc := b_M_bitsOf) (maxL := 1) (ret := (some .int)) (by decide) rfl ?_
  intro p e s m args below meth c s₁ B hml hv
  obtain ⟨rfl, hP, hK, hB⟩ := hv
  have hx := B.exec
  have hb := B.bytes
  have hr := B.returns
  have hts : ∀ w ∈ wALL, w.before _ s = true := fun w h => atoms_spec (ws := (wM y_M_bitsOf b_M_bitsOf 1 (some .int))) B.pre w (List.mem_cons_of_mem _ h)
  have hown : s.vm.findClass "StepMachineModel" = some m.cls := findClass_of_methodNamed B.named
  have hlocks := B.notSynchronized
  have hl := lv_entry ([.int x0]) (n := 1) (Nat.le_of_ble_eq_true rfl)
  rw [lg_entry_eq]
  generalize (lg_sl ([.int x0]) ++ List.replicate (1 - (lg_sl ([.int x0])).length) Slot.unset).toArray = ls at hl ⊢
  have hl : lv_has ls 1 [(0, .int x0)] := hl
  refine lv_iload_n hx hb d_M_bitsOf_0 rfl (lv_at hl 0 rfl) ?_
  refine lv_bipush (v := 48) hx hb d_M_bitsOf_1 (by decide) ?_
  refine lv_icmp_ge (tgt := 11) hx hb d_M_bitsOf_3 (by decide) (fun c_3 => ?_) (fun c_3 => ?_)
  · skip
    refine lv_bipush (v := 16) hx hb d_M_bitsOf_11 (by decide) ?_
    exact W.iret (v := 16) hx hb hr (fun t ht hW => ⟨_, rfl, by rw [mF_StepMachineModel_bitsOf, if_pos c_3], ht⟩) (fun q h => by cases h) d_M_bitsOf_13
  · skip
    refine lv_bipush (v := 32) hx hb d_M_bitsOf_6 (by decide) ?_
    refine lv_goto (tgt := 13) hx hb d_M_bitsOf_8 (by decide) ?_
    exact W.iret (v := 32) hx hb hr (fun t ht hW => ⟨_, rfl, by rw [mF_StepMachineModel_bitsOf, if_neg c_3], ht⟩) (fun q h => by cases h) d_M_bitsOf_13
def mF_StepMachineModel_isBranch (x0 : Int32) : Int32 := (if x0 ≤ 3 then 0 else (if 10 ≤ x0 then 0 else 1))
set_option maxHeartbeats 4000000 in
set_option maxRecDepth 100000 in
theorem mc_StepMachineModel_isBranch (l : Launch) (D : va_G) (tc : Nat → ClassId) (tb : Nat → Nat) (z0 : Nat) (x0 : Int32) : Met l y_M_isBranch (wM y_M_isBranch b_M_isBranch 1 (some .boolean)) ({ frames := 0, cells := 0, slots := 0, locals := 0 }) (va_Pc [.int x0] (Pr D tc tb z0 [])) (vp_Si (fun r => r = (mF_StepMachineModel_isBranch x0))) 0 0 (fun _ => False) := by
  refine Met.ofW (cc := b_M_isBranch) (maxL := 1) (ret := (some .boolean)) (by decide) rfl ?_
  intro p e s m args below meth c s₁ B hml hv
  obtain ⟨rfl, hP, hK, hB⟩ := hv
  have hx := B.exec
  have hb := B.bytes
  have hr := B.returns
  have hts : ∀ w ∈ wALL, w.before _ s = true := fun w h => atoms_spec (ws := (wM y_M_isBranch b_M_isBranch 1 (some .boolean))) B.pre w (List.mem_cons_of_mem _ h)
  have hown : s.vm.findClass "StepMachineModel" = some m.cls := findClass_of_methodNamed B.named
  have hlocks := B.notSynchronized
  have hl := lv_entry ([.int x0]) (n := 1) (Nat.le_of_ble_eq_true rfl)
  rw [lg_entry_eq]
  generalize (lg_sl ([.int x0]) ++ List.replicate (1 - (lg_sl ([.int x0])).length) Slot.unset).toArray = ls at hl ⊢
  have hl : lv_has ls 1 [(0, .int x0)] := hl
  refine lv_iload_n hx hb d_M_isBranch_0 rfl (lv_at hl 0 rfl) ?_
  refine lv_iconst (v := 3) hx hb d_M_isBranch_1 (by decide) ?_
  refine lv_icmp_le (tgt := 15) hx hb d_M_isBranch_2 (by decide) (fun c_2 => ?_) (fun c_2 => ?_)
  · skip
    refine lv_iconst (v := 0) hx hb d_M_isBranch_15 (by decide) ?_
    exact W.zret (v := 0) hx hb hr rfl (fun t ht hW => ⟨_, rfl, by rw [mF_StepMachineModel_isBranch, if_pos c_2], ht⟩) (fun q h => by cases h) d_M_isBranch_16
  · skip
    refine lv_iload_n hx hb d_M_isBranch_5 rfl (lv_at hl 0 rfl) ?_
    refine lv_bipush (v := 10) hx hb d_M_isBranch_6 (by decide) ?_
    refine lv_icmp_ge (tgt := 15) hx hb d_M_isBranch_8 (by decide) (fun c_8 => ?_) (fun c_8 => ?_)
    · skip
      refine lv_iconst (v := 0) hx hb d_M_isBranch_15 (by decide) ?_
      exact W.zret (v := 0) hx hb hr rfl (fun t ht hW => ⟨_, rfl, by rw [mF_StepMachineModel_isBranch, if_neg c_2, if_pos c_8], ht⟩) (fun q h => by cases h) d_M_isBranch_16
    · skip
      refine lv_iconst (v := 1) hx hb d_M_isBranch_11 (by decide) ?_
      refine lv_goto (tgt := 16) hx hb d_M_isBranch_12 (by decide) ?_
      exact W.zret (v := 1) hx hb hr rfl (fun t ht hW => ⟨_, rfl, by rw [mF_StepMachineModel_isBranch, if_neg c_2, if_neg c_8], ht⟩) (fun q h => by cases h) d_M_isBranch_16
def mF_StepMachineModel_isStore (x0 : Int32) : Int32 := (if x0 ≤ 14 then 0 else (if 18 ≤ x0 then 0 else 1))
set_option maxHeartbeats 4000000 in
set_option maxRecDepth 100000 in
theorem mc_StepMachineModel_isStore (l : Launch) (D : va_G) (tc : Nat → ClassId) (tb : Nat → Nat) (z0 : Nat) (x0 : Int32) : Met l y_M_isStore (wM y_M_isStore b_M_isStore 1 (some .boolean)) ({ frames := 0, cells := 0, slots := 0, locals := 0 }) (va_Pc [.int x0] (Pr D tc tb z0 [])) (vp_Si (fun r => r = (mF_StepMachineModel_isStore x0))) 0 0 (fun _ => False) := by
  refine Met.ofW (cc := b_M_isStore) (maxL := 1) (ret := (some .boolean)) (by decide) rfl ?_
  intro p e s m args below meth c s₁ B hml hv
  obtain ⟨rfl, hP, hK, hB⟩ := hv
  have hx := B.exec
  have hb := B.bytes
  have hr := B.returns
  have hts : ∀ w ∈ wALL, w.before _ s = true := fun w h => atoms_spec (ws := (wM y_M_isStore b_M_isStore 1 (some .boolean))) B.pre w (List.mem_cons_of_mem _ h)
  have hown : s.vm.findClass "StepMachineModel" = some m.cls := findClass_of_methodNamed B.named
  have hlocks := B.notSynchronized
  have hl := lv_entry ([.int x0]) (n := 1) (Nat.le_of_ble_eq_true rfl)
  rw [lg_entry_eq]
  generalize (lg_sl ([.int x0]) ++ List.replicate (1 - (lg_sl ([.int x0])).length) Slot.unset).toArray = ls at hl ⊢
  have hl : lv_has ls 1 [(0, .int x0)] := hl
  refine lv_iload_n hx hb d_M_isStore_0 rfl (lv_at hl 0 rfl) ?_
  refine lv_bipush (v := 14) hx hb d_M_isStore_1 (by decide) ?_
  refine lv_icmp_le (tgt := 16) hx hb d_M_isStore_3 (by decide) (fun c_3 => ?_) (fun c_3 => ?_)
  · skip
    refine lv_iconst (v := 0) hx hb d_M_isStore_16 (by decide) ?_
    exact W.zret (v := 0) hx hb hr rfl (fun t ht hW => ⟨_, rfl, by rw [mF_StepMachineModel_isStore, if_pos c_3], ht⟩) (fun q h => by cases h) d_M_isStore_17
  · skip
    refine lv_iload_n hx hb d_M_isStore_6 rfl (lv_at hl 0 rfl) ?_
    refine lv_bipush (v := 18) hx hb d_M_isStore_7 (by decide) ?_
    refine lv_icmp_ge (tgt := 16) hx hb d_M_isStore_9 (by decide) (fun c_9 => ?_) (fun c_9 => ?_)
    · skip
      refine lv_iconst (v := 0) hx hb d_M_isStore_16 (by decide) ?_
      exact W.zret (v := 0) hx hb hr rfl (fun t ht hW => ⟨_, rfl, by rw [mF_StepMachineModel_isStore, if_neg c_3, if_pos c_9], ht⟩) (fun q h => by cases h) d_M_isStore_17
    · skip
      refine lv_iconst (v := 1) hx hb d_M_isStore_12 (by decide) ?_
      refine lv_goto (tgt := 17) hx hb d_M_isStore_13 (by decide) ?_
      exact W.zret (v := 1) hx hb hr rfl (fun t ht hW => ⟨_, rfl, by rw [mF_StepMachineModel_isStore, if_neg c_3, if_neg c_9], ht⟩) (fun q h => by cases h) d_M_isStore_17
def mF_StepMachineModel_isShift (x0 : Int32) : Int32 := (if x0 ≤ 23 then 0 else (if 27 ≤ x0 then 0 else 1))
set_option maxHeartbeats 4000000 in
set_option maxRecDepth 100000 in
theorem mc_StepMachineModel_isShift (l : Launch) (D : va_G) (tc : Nat → ClassId) (tb : Nat → Nat) (z0 : Nat) (x0 : Int32) : Met l y_M_isShift (wM y_M_isShift b_M_isShift 1 (some .boolean)) ({ frames := 0, cells := 0, slots := 0, locals := 0 }) (va_Pc [.int x0] (Pr D tc tb z0 [])) (vp_Si (fun r => r = (mF_StepMachineModel_isShift x0))) 0 0 (fun _ => False) := by
  refine Met.ofW (cc := b_M_isShift) (maxL := 1) (ret := (some .boolean)) (by decide) rfl ?_
  intro p e s m args below meth c s₁ B hml hv
  obtain ⟨rfl, hP, hK, hB⟩ := hv
  have hx := B.exec
  have hb := B.bytes
  have hr := B.returns
  have hts : ∀ w ∈ wALL, w.before _ s = true := fun w h => atoms_spec (ws := (wM y_M_isShift b_M_isShift 1 (some .boolean))) B.pre w (List.mem_cons_of_mem _ h)
  have hown : s.vm.findClass "StepMachineModel" = some m.cls := findClass_of_methodNamed B.named
  have hlocks := B.notSynchronized
  have hl := lv_entry ([.int x0]) (n := 1) (Nat.le_of_ble_eq_true rfl)
  rw [lg_entry_eq]
  generalize (lg_sl ([.int x0]) ++ List.replicate (1 - (lg_sl ([.int x0])).length) Slot.unset).toArray = ls at hl ⊢
  have hl : lv_has ls 1 [(0, .int x0)] := hl
  refine lv_iload_n hx hb d_M_isShift_0 rfl (lv_at hl 0 rfl) ?_
  refine lv_bipush (v := 23) hx hb d_M_isShift_1 (by decide) ?_
  refine lv_icmp_le (tgt := 16) hx hb d_M_isShift_3 (by decide) (fun c_3 => ?_) (fun c_3 => ?_)
  · skip
    refine lv_iconst (v := 0) hx hb d_M_isShift_16 (by decide) ?_
    exact W.zret (v := 0) hx hb hr rfl (fun t ht hW => ⟨_, rfl, by rw [mF_StepMachineModel_isShift, if_pos c_3], ht⟩) (fun q h => by cases h) d_M_isShift_17
  · skip
    refine lv_iload_n hx hb d_M_isShift_6 rfl (lv_at hl 0 rfl) ?_
    refine lv_bipush (v := 27) hx hb d_M_isShift_7 (by decide) ?_
    refine lv_icmp_ge (tgt := 16) hx hb d_M_isShift_9 (by decide) (fun c_9 => ?_) (fun c_9 => ?_)
    · skip
      refine lv_iconst (v := 0) hx hb d_M_isShift_16 (by decide) ?_
      exact W.zret (v := 0) hx hb hr rfl (fun t ht hW => ⟨_, rfl, by rw [mF_StepMachineModel_isShift, if_neg c_3, if_pos c_9], ht⟩) (fun q h => by cases h) d_M_isShift_17
    · skip
      refine lv_iconst (v := 1) hx hb d_M_isShift_12 (by decide) ?_
      refine lv_goto (tgt := 17) hx hb d_M_isShift_13 (by decide) ?_
      exact W.zret (v := 1) hx hb hr rfl (fun t ht hW => ⟨_, rfl, by rw [mF_StepMachineModel_isShift, if_neg c_3, if_neg c_9], ht⟩) (fun q h => by cases h) d_M_isShift_17
def mF_StepMachineModel_bare (x0 : Int32) : Int64 := (x0.toInt64 &&& 4294967295)
set_option maxHeartbeats 4000000 in
set_option maxRecDepth 100000 in
theorem mc_StepMachineModel_bare (l : Launch) (D : va_G) (tc : Nat → ClassId) (tb : Nat → Nat) (z0 : Nat) (x0 : Int32) : Met l y_M_bare (wM y_M_bare b_M_bare 1 (some .long)) ({ frames := 0, cells := 0, slots := 0, locals := 0 }) (va_Pc [.int x0] (Pr D tc tb z0 [])) (vp_Sl (fun r => r = (mF_StepMachineModel_bare x0))) 0 0 (fun _ => False) := by
  refine Met.ofW (cc := b_M_bare) (maxL := 1) (ret := (some .long)) (by decide) rfl ?_
  intro p e s m args below meth c s₁ B hml hv
  obtain ⟨rfl, hP, hK, hB⟩ := hv
  have hx := B.exec
  have hb := B.bytes
  have hr := B.returns
  have hts : ∀ w ∈ wALL, w.before _ s = true := fun w h => atoms_spec (ws := (wM y_M_bare b_M_bare 1 (some .long))) B.pre w (List.mem_cons_of_mem _ h)
  have hown : s.vm.findClass "StepMachineModel" = some m.cls := findClass_of_methodNamed B.named
  have hlocks := B.notSynchronized
  have hl := lv_entry ([.int x0]) (n := 1) (Nat.le_of_ble_eq_true rfl)
  rw [lg_entry_eq]
  generalize (lg_sl ([.int x0]) ++ List.replicate (1 - (lg_sl ([.int x0])).length) Slot.unset).toArray = ls at hl ⊢
  have hl : lv_has ls 1 [(0, .int x0)] := hl
  refine lv_iload_n hx hb d_M_bare_0 rfl (lv_at hl 0 rfl) ?_
  refine lv_i2l (v := x0.toInt64) hx hb d_M_bare_1 rfl ?_
  refine lv_ldc2 (v := 4294967295) hx hb hown (hts _ a_749) d_M_bare_2 ?_
  refine lv_land hx hb d_M_bare_5 ?_
  exact W.lret (v := (x0.toInt64 &&& 4294967295)) hx hb hr (fun t ht hW => ⟨_, rfl, by rw [mF_StepMachineModel_bare], ht⟩) (fun q h => by cases h) d_M_bare_6
def mF_StepMachineModel_isLong (x0 : Int32) : Int32 := (if (x0 &&& 3) = 3 then 1 else 0)
set_option maxHeartbeats 4000000 in
set_option maxRecDepth 100000 in
theorem mc_StepMachineModel_isLong (l : Launch) (D : va_G) (tc : Nat → ClassId) (tb : Nat → Nat) (z0 : Nat) (x0 : Int32) : Met l y_M_isLong (wM y_M_isLong b_M_isLong 1 (some .boolean)) ({ frames := 0, cells := 0, slots := 0, locals := 0 }) (va_Pc [.int x0] (Pr D tc tb z0 [])) (vp_Si (fun r => r = (mF_StepMachineModel_isLong x0))) 0 0 (fun _ => False) := by
  refine Met.ofW (cc := b_M_isLong) (maxL := 1) (ret := (some .boolean)) (by decide) rfl ?_
  intro p e s m args below meth c s₁ B hml hv
  obtain ⟨rfl, hP, hK, hB⟩ := hv
  have hx := B.exec
  have hb := B.bytes
  have hr := B.returns
  have hts : ∀ w ∈ wALL, w.before _ s = true := fun w h => atoms_spec (ws := (wM y_M_isLong b_M_isLong 1 (some .boolean))) B.pre w (List.mem_cons_of_mem _ h)
  have hown : s.vm.findClass "StepMachineModel" = some m.cls := findClass_of_methodNamed B.named
  have hlocks := B.notSynchronized
  have hl := lv_entry ([.int x0]) (n := 1) (Nat.le_of_ble_eq_true rfl)
  rw [lg_entry_eq]
  generalize (lg_sl ([.int x0]) ++ List.replicate (1 - (lg_sl ([.int x0])).length) Slot.unset).toArray = ls at hl ⊢
  have hl : lv_has ls 1 [(0, .int x0)] := hl
  refine lv_iload_n hx hb d_M_isLong_0 rfl (lv_at hl 0 rfl) ?_
  refine lv_iconst (v := 3) hx hb d_M_isLong_1 (by decide) ?_
  refine lv_iand hx hb d_M_isLong_2 ?_
  refine lv_iconst (v := 3) hx hb d_M_isLong_3 (by decide) ?_
  refine lv_icmp_ne (tgt := 11) hx hb d_M_isLong_4 (by decide) (fun c_4 => ?_) (fun c_4 => ?_)
  · skip
    refine lv_iconst (v := 0) hx hb d_M_isLong_11 (by decide) ?_
    exact W.zret (v := 0) hx hb hr rfl (fun t ht hW => ⟨_, rfl, by rw [mF_StepMachineModel_isLong, if_neg c_4], ht⟩) (fun q h => by cases h) d_M_isLong_12
  · skip
    refine lv_iconst (v := 1) hx hb d_M_isLong_7 (by decide) ?_
    refine lv_goto (tgt := 12) hx hb d_M_isLong_8 (by decide) ?_
    exact W.zret (v := 1) hx hb hr rfl (fun t ht hW => ⟨_, rfl, by rw [mF_StepMachineModel_isLong, if_pos c_4], ht⟩) (fun q h => by cases h) d_M_isLong_12
def mF_StepMachineModel_longKind (x0 : Int32) : Int32 := (if x0 = 48 then 18 else (if x0 = 49 then 12 else (if x0 = 50 then 17 else (if x0 = 51 then 18 else (if x0 = 52 then 18 else (if x0 = 53 then 2 else (if x0 = 54 then 18 else (if x0 = 55 then 18 else (if x0 = 56 then 0 else (if x0 = 57 then 25 else (if x0 = 58 then 26 else (if x0 = 59 then 23 else (if x0 = 60 then 28 else (if x0 = 61 then 32 else (if x0 = 62 then 35 else (if x0 = 63 then 36 else (if x0 = 64 then 2 else (if x0 = 65 then 4 else (if x0 = 66 then 5 else (if x0 = 67 then 24 else (if x0 = 68 then 12 else (if x0 = 69 then 3 else (if x0 = 70 then 27 else (if x0 = 71 then 47 else (if x0 = 72 then 3 else (if x0 = 73 then 27 else (if x0 = 74 then 17 else 27)))))))))))))))))))))))))))
set_option maxHeartbeats 4000000 in
set_option maxRecDepth 100000 in
theorem mc_StepMachineModel_longKind (l : Launch) (D : va_G) (tc : Nat → ClassId) (tb : Nat → Nat) (z0 : Nat) (x0 : Int32) : Met l y_M_longKind (wM y_M_longKind b_M_longKind 1 (some .int)) ({ frames := 0, cells := 0, slots := 0, locals := 0 }) (va_Pc [.int x0] (Pr D tc tb z0 [])) (vp_Si (fun r => r = (mF_StepMachineModel_longKind x0))) 0 0 (fun _ => False) := by
  refine Met.ofW (cc := b_M_longKind) (maxL := 1) (ret := (some .int)) (by decide) rfl ?_
  intro p e s m args below meth c s₁ B hml hv
  obtain ⟨rfl, hP, hK, hB⟩ := hv
  have hx := B.exec
  have hb := B.bytes
  have hr := B.returns
  have hts : ∀ w ∈ wALL, w.before _ s = true := fun w h => atoms_spec (ws := (wM y_M_longKind b_M_longKind 1 (some .int))) B.pre w (List.mem_cons_of_mem _ h)
  have hown : s.vm.findClass "StepMachineModel" = some m.cls := findClass_of_methodNamed B.named
  have hlocks := B.notSynchronized
  have hl := lv_entry ([.int x0]) (n := 1) (Nat.le_of_ble_eq_true rfl)
  rw [lg_entry_eq]
  generalize (lg_sl ([.int x0]) ++ List.replicate (1 - (lg_sl ([.int x0])).length) Slot.unset).toArray = ls at hl ⊢
  have hl : lv_has ls 1 [(0, .int x0)] := hl
  refine lv_iload_n hx hb d_M_longKind_0 rfl (lv_at hl 0 rfl) ?_
  by_cases c_1_0 : x0 = 48
  · skip
    refine lv_tableIn (tgt := 124) hx hb d_M_longKind_1 (by rw [c_1_0]; decide) (by rw [c_1_0]; decide) (by rw [c_1_0] <;> rfl) (by decide) ?_
    refine lv_bipush (v := 18) hx hb d_M_longKind_124 (by decide) ?_
    exact W.iret (v := 18) hx hb hr (fun t ht hW => ⟨_, rfl, by rw [mF_StepMachineModel_longKind, if_pos c_1_0], ht⟩) (fun q h => by cases h) d_M_longKind_126
  · skip
    by_cases c_1_1 : x0 = 49
    · skip
      refine lv_tableIn (tgt := 127) hx hb d_M_longKind_1 (by rw [c_1_1]; decide) (by rw [c_1_1]; decide) (by rw [c_1_1] <;> rfl) (by decide) ?_
      refine lv_bipush (v := 12) hx hb d_M_longKind_127 (by decide) ?_
      exact W.iret (v := 12) hx hb hr (fun t ht hW => ⟨_, rfl, by rw [mF_StepMachineModel_longKind, if_neg c_1_0, if_pos c_1_1], ht⟩) (fun q h => by cases h) d_M_longKind_129
    · skip
      by_cases c_1_2 : x0 = 50
      · skip
        refine lv_tableIn (tgt := 130) hx hb d_M_longKind_1 (by rw [c_1_2]; decide) (by rw [c_1_2]; decide) (by rw [c_1_2] <;> rfl) (by decide) ?_
        refine lv_bipush (v := 17) hx hb d_M_longKind_130 (by decide) ?_
        exact W.iret (v := 17) hx hb hr (fun t ht hW => ⟨_, rfl, by rw [mF_StepMachineModel_longKind, if_neg c_1_0, if_neg c_1_1, if_pos c_1_2], ht⟩) (fun q h => by cases h) d_M_longKind_132
      · skip
        by_cases c_1_3 : x0 = 51
        · skip
          refine lv_tableIn (tgt := 124) hx hb d_M_longKind_1 (by rw [c_1_3]; decide) (by rw [c_1_3]; decide) (by rw [c_1_3] <;> rfl) (by decide) ?_
          refine lv_bipush (v := 18) hx hb d_M_longKind_124 (by decide) ?_
          exact W.iret (v := 18) hx hb hr (fun t ht hW => ⟨_, rfl, by rw [mF_StepMachineModel_longKind, if_neg c_1_0, if_neg c_1_1, if_neg c_1_2, if_pos c_1_3], ht⟩) (fun q h => by cases h) d_M_longKind_126
        · skip
          by_cases c_1_4 : x0 = 52
          · skip
            refine lv_tableIn (tgt := 124) hx hb d_M_longKind_1 (by rw [c_1_4]; decide) (by rw [c_1_4]; decide) (by rw [c_1_4] <;> rfl) (by decide) ?_
            refine lv_bipush (v := 18) hx hb d_M_longKind_124 (by decide) ?_
            exact W.iret (v := 18) hx hb hr (fun t ht hW => ⟨_, rfl, by rw [mF_StepMachineModel_longKind, if_neg c_1_0, if_neg c_1_1, if_neg c_1_2, if_neg c_1_3, if_pos c_1_4], ht⟩) (fun q h => by cases h) d_M_longKind_126
          · skip
            by_cases c_1_5 : x0 = 53
            · skip
              refine lv_tableIn (tgt := 133) hx hb d_M_longKind_1 (by rw [c_1_5]; decide) (by rw [c_1_5]; decide) (by rw [c_1_5] <;> rfl) (by decide) ?_
              refine lv_iconst (v := 2) hx hb d_M_longKind_133 (by decide) ?_
              exact W.iret (v := 2) hx hb hr (fun t ht hW => ⟨_, rfl, by rw [mF_StepMachineModel_longKind, if_neg c_1_0, if_neg c_1_1, if_neg c_1_2, if_neg c_1_3, if_neg c_1_4, if_pos c_1_5], ht⟩) (fun q h => by cases h) d_M_longKind_134
            · skip
              by_cases c_1_6 : x0 = 54
              · skip
                refine lv_tableIn (tgt := 124) hx hb d_M_longKind_1 (by rw [c_1_6]; decide) (by rw [c_1_6]; decide) (by rw [c_1_6] <;> rfl) (by decide) ?_
                refine lv_bipush (v := 18) hx hb d_M_longKind_124 (by decide) ?_
                exact W.iret (v := 18) hx hb hr (fun t ht hW => ⟨_, rfl, by rw [mF_StepMachineModel_longKind, if_neg c_1_0, if_neg c_1_1, if_neg c_1_2, if_neg c_1_3, if_neg c_1_4, if_neg c_1_5, if_pos c_1_6], ht⟩) (fun q h => by cases h) d_M_longKind_126
              · skip
                by_cases c_1_7 : x0 = 55
                · skip
                  refine lv_tableIn (tgt := 124) hx hb d_M_longKind_1 (by rw [c_1_7]; decide) (by rw [c_1_7]; decide) (by rw [c_1_7] <;> rfl) (by decide) ?_
                  refine lv_bipush (v := 18) hx hb d_M_longKind_124 (by decide) ?_
                  exact W.iret (v := 18) hx hb hr (fun t ht hW => ⟨_, rfl, by rw [mF_StepMachineModel_longKind, if_neg c_1_0, if_neg c_1_1, if_neg c_1_2, if_neg c_1_3, if_neg c_1_4, if_neg c_1_5, if_neg c_1_6, if_pos c_1_7], ht⟩) (fun q h => by cases h) d_M_longKind_126
                · skip
                  by_cases c_1_8 : x0 = 56
                  · skip
                    refine lv_tableIn (tgt := 135) hx hb d_M_longKind_1 (by rw [c_1_8]; decide) (by rw [c_1_8]; decide) (by rw [c_1_8] <;> rfl) (by decide) ?_
                    refine lv_iconst (v := 0) hx hb d_M_longKind_135 (by decide) ?_
                    exact W.iret (v := 0) hx hb hr (fun t ht hW => ⟨_, rfl, by rw [mF_StepMachineModel_longKind, if_neg c_1_0, if_neg c_1_1, if_neg c_1_2, if_neg c_1_3, if_neg c_1_4, if_neg c_1_5, if_neg c_1_6, if_neg c_1_7, if_pos c_1_8], ht⟩) (fun q h => by cases h) d_M_longKind_136
                  · skip
                    by_cases c_1_9 : x0 = 57
                    · skip
                      refine lv_tableIn (tgt := 137) hx hb d_M_longKind_1 (by rw [c_1_9]; decide) (by rw [c_1_9]; decide) (by rw [c_1_9] <;> rfl) (by decide) ?_
                      refine lv_bipush (v := 25) hx hb d_M_longKind_137 (by decide) ?_
                      exact W.iret (v := 25) hx hb hr (fun t ht hW => ⟨_, rfl, by rw [mF_StepMachineModel_longKind, if_neg c_1_0, if_neg c_1_1, if_neg c_1_2, if_neg c_1_3, if_neg c_1_4, if_neg c_1_5, if_neg c_1_6, if_neg c_1_7, if_neg c_1_8, if_pos c_1_9], ht⟩) (fun q h => by cases h) d_M_longKind_139
                    · skip
                      by_cases c_1_10 : x0 = 58
                      · skip
                        refine lv_tableIn (tgt := 140) hx hb d_M_longKind_1 (by rw [c_1_10]; decide) (by rw [c_1_10]; decide) (by rw [c_1_10] <;> rfl) (by decide) ?_
                        refine lv_bipush (v := 26) hx hb d_M_longKind_140 (by decide) ?_
                        exact W.iret (v := 26) hx hb hr (fun t ht hW => ⟨_, rfl, by rw [mF_StepMachineModel_longKind, if_neg c_1_0, if_neg c_1_1, if_neg c_1_2, if_neg c_1_3, if_neg c_1_4, if_neg c_1_5, if_neg c_1_6, if_neg c_1_7, if_neg c_1_8, if_neg c_1_9, if_pos c_1_10], ht⟩) (fun q h => by cases h) d_M_longKind_142
                      · skip
                        by_cases c_1_11 : x0 = 59
                        · skip
                          refine lv_tableIn (tgt := 143) hx hb d_M_longKind_1 (by rw [c_1_11]; decide) (by rw [c_1_11]; decide) (by rw [c_1_11] <;> rfl) (by decide) ?_
                          refine lv_bipush (v := 23) hx hb d_M_longKind_143 (by decide) ?_
                          exact W.iret (v := 23) hx hb hr (fun t ht hW => ⟨_, rfl, by rw [mF_StepMachineModel_longKind, if_neg c_1_0, if_neg c_1_1, if_neg c_1_2, if_neg c_1_3, if_neg c_1_4, if_neg c_1_5, if_neg c_1_6, if_neg c_1_7, if_neg c_1_8, if_neg c_1_9, if_neg c_1_10, if_pos c_1_11], ht⟩) (fun q h => by cases h) d_M_longKind_145
                        · skip
                          by_cases c_1_12 : x0 = 60
                          · skip
                            refine lv_tableIn (tgt := 146) hx hb d_M_longKind_1 (by rw [c_1_12]; decide) (by rw [c_1_12]; decide) (by rw [c_1_12] <;> rfl) (by decide) ?_
                            refine lv_bipush (v := 28) hx hb d_M_longKind_146 (by decide) ?_
                            exact W.iret (v := 28) hx hb hr (fun t ht hW => ⟨_, rfl, by rw [mF_StepMachineModel_longKind, if_neg c_1_0, if_neg c_1_1, if_neg c_1_2, if_neg c_1_3, if_neg c_1_4, if_neg c_1_5, if_neg c_1_6, if_neg c_1_7, if_neg c_1_8, if_neg c_1_9, if_neg c_1_10, if_neg c_1_11, if_pos c_1_12], ht⟩) (fun q h => by cases h) d_M_longKind_148
                          · skip
                            by_cases c_1_13 : x0 = 61
                            · skip
                              refine lv_tableIn (tgt := 149) hx hb d_M_longKind_1 (by rw [c_1_13]; decide) (by rw [c_1_13]; decide) (by rw [c_1_13] <;> rfl) (by decide) ?_
                              refine lv_bipush (v := 32) hx hb d_M_longKind_149 (by decide) ?_
                              exact W.iret (v := 32) hx hb hr (fun t ht hW => ⟨_, rfl, by rw [mF_StepMachineModel_longKind, if_neg c_1_0, if_neg c_1_1, if_neg c_1_2, if_neg c_1_3, if_neg c_1_4, if_neg c_1_5, if_neg c_1_6, if_neg c_1_7, if_neg c_1_8, if_neg c_1_9, if_neg c_1_10, if_neg c_1_11, if_neg c_1_12, if_pos c_1_13], ht⟩) (fun q h => by cases h) d_M_longKind_151
                            · skip
                              by_cases c_1_14 : x0 = 62
                              · skip
                                refine lv_tableIn (tgt := 152) hx hb d_M_longKind_1 (by rw [c_1_14]; decide) (by rw [c_1_14]; decide) (by rw [c_1_14] <;> rfl) (by decide) ?_
                                refine lv_bipush (v := 35) hx hb d_M_longKind_152 (by decide) ?_
                                exact W.iret (v := 35) hx hb hr (fun t ht hW => ⟨_, rfl, by rw [mF_StepMachineModel_longKind, if_neg c_1_0, if_neg c_1_1, if_neg c_1_2, if_neg c_1_3, if_neg c_1_4, if_neg c_1_5, if_neg c_1_6, if_neg c_1_7, if_neg c_1_8, if_neg c_1_9, if_neg c_1_10, if_neg c_1_11, if_neg c_1_12, if_neg c_1_13, if_pos c_1_14], ht⟩) (fun q h => by cases h) d_M_longKind_154
                              · skip
                                by_cases c_1_15 : x0 = 63
                                · skip
                                  refine lv_tableIn (tgt := 155) hx hb d_M_longKind_1 (by rw [c_1_15]; decide) (by rw [c_1_15]; decide) (by rw [c_1_15] <;> rfl) (by decide) ?_
                                  refine lv_bipush (v := 36) hx hb d_M_longKind_155 (by decide) ?_
                                  exact W.iret (v := 36) hx hb hr (fun t ht hW => ⟨_, rfl, by rw [mF_StepMachineModel_longKind, if_neg c_1_0, if_neg c_1_1, if_neg c_1_2, if_neg c_1_3, if_neg c_1_4, if_neg c_1_5, if_neg c_1_6, if_neg c_1_7, if_neg c_1_8, if_neg c_1_9, if_neg c_1_10, if_neg c_1_11, if_neg c_1_12, if_neg c_1_13, if_neg c_1_14, if_pos c_1_15], ht⟩) (fun q h => by cases h) d_M_longKind_157
                                · skip
                                  by_cases c_1_16 : x0 = 64
                                  · skip
                                    refine lv_tableIn (tgt := 133) hx hb d_M_longKind_1 (by rw [c_1_16]; decide) (by rw [c_1_16]; decide) (by rw [c_1_16] <;> rfl) (by decide) ?_
                                    refine lv_iconst (v := 2) hx hb d_M_longKind_133 (by decide) ?_
                                    exact W.iret (v := 2) hx hb hr (fun t ht hW => ⟨_, rfl, by rw [mF_StepMachineModel_longKind, if_neg c_1_0, if_neg c_1_1, if_neg c_1_2, if_neg c_1_3, if_neg c_1_4, if_neg c_1_5, if_neg c_1_6, if_neg c_1_7, if_neg c_1_8, if_neg c_1_9, if_neg c_1_10, if_neg c_1_11, if_neg c_1_12, if_neg c_1_13, if_neg c_1_14, if_neg c_1_15, if_pos c_1_16], ht⟩) (fun q h => by cases h) d_M_longKind_134
                                  · skip
                                    by_cases c_1_17 : x0 = 65
                                    · skip
                                      refine lv_tableIn (tgt := 158) hx hb d_M_longKind_1 (by rw [c_1_17]; decide) (by rw [c_1_17]; decide) (by rw [c_1_17] <;> rfl) (by decide) ?_
                                      refine lv_iconst (v := 4) hx hb d_M_longKind_158 (by decide) ?_
                                      exact W.iret (v := 4) hx hb hr (fun t ht hW => ⟨_, rfl, by rw [mF_StepMachineModel_longKind, if_neg c_1_0, if_neg c_1_1, if_neg c_1_2, if_neg c_1_3, if_neg c_1_4, if_neg c_1_5, if_neg c_1_6, if_neg c_1_7, if_neg c_1_8, if_neg c_1_9, if_neg c_1_10, if_neg c_1_11, if_neg c_1_12, if_neg c_1_13, if_neg c_1_14, if_neg c_1_15, if_neg c_1_16, if_pos c_1_17], ht⟩) (fun q h => by cases h) d_M_longKind_159
                                    · skip
                                      by_cases c_1_18 : x0 = 66
                                      · skip
                                        refine lv_tableIn (tgt := 160) hx hb d_M_longKind_1 (by rw [c_1_18]; decide) (by rw [c_1_18]; decide) (by rw [c_1_18] <;> rfl) (by decide) ?_
                                        refine lv_iconst (v := 5) hx hb d_M_longKind_160 (by decide) ?_
                                        exact W.iret (v := 5) hx hb hr (fun t ht hW => ⟨_, rfl, by rw [mF_StepMachineModel_longKind, if_neg c_1_0, if_neg c_1_1, if_neg c_1_2, if_neg c_1_3, if_neg c_1_4, if_neg c_1_5, if_neg c_1_6, if_neg c_1_7, if_neg c_1_8, if_neg c_1_9, if_neg c_1_10, if_neg c_1_11, if_neg c_1_12, if_neg c_1_13, if_neg c_1_14, if_neg c_1_15, if_neg c_1_16, if_neg c_1_17, if_pos c_1_18], ht⟩) (fun q h => by cases h) d_M_longKind_161
                                      · skip
                                        by_cases c_1_19 : x0 = 67
                                        · skip
                                          refine lv_tableIn (tgt := 162) hx hb d_M_longKind_1 (by rw [c_1_19]; decide) (by rw [c_1_19]; decide) (by rw [c_1_19] <;> rfl) (by decide) ?_
                                          refine lv_bipush (v := 24) hx hb d_M_longKind_162 (by decide) ?_
                                          exact W.iret (v := 24) hx hb hr (fun t ht hW => ⟨_, rfl, by rw [mF_StepMachineModel_longKind, if_neg c_1_0, if_neg c_1_1, if_neg c_1_2, if_neg c_1_3, if_neg c_1_4, if_neg c_1_5, if_neg c_1_6, if_neg c_1_7, if_neg c_1_8, if_neg c_1_9, if_neg c_1_10, if_neg c_1_11, if_neg c_1_12, if_neg c_1_13, if_neg c_1_14, if_neg c_1_15, if_neg c_1_16, if_neg c_1_17, if_neg c_1_18, if_pos c_1_19], ht⟩) (fun q h => by cases h) d_M_longKind_164
                                        · skip
                                          by_cases c_1_20 : x0 = 68
                                          · skip
                                            refine lv_tableIn (tgt := 127) hx hb d_M_longKind_1 (by rw [c_1_20]; decide) (by rw [c_1_20]; decide) (by rw [c_1_20] <;> rfl) (by decide) ?_
                                            refine lv_bipush (v := 12) hx hb d_M_longKind_127 (by decide) ?_
                                            exact W.iret (v := 12) hx hb hr (fun t ht hW => ⟨_, rfl, by rw [mF_StepMachineModel_longKind, if_neg c_1_0, if_neg c_1_1, if_neg c_1_2, if_neg c_1_3, if_neg c_1_4, if_neg c_1_5, if_neg c_1_6, if_neg c_1_7, if_neg c_1_8, if_neg c_1_9, if_neg c_1_10, if_neg c_1_11, if_neg c_1_12, if_neg c_1_13, if_neg c_1_14, if_neg c_1_15, if_neg c_1_16, if_neg c_1_17, if_neg c_1_18, if_neg c_1_19, if_pos c_1_20], ht⟩) (fun q h => by cases h) d_M_longKind_129
                                          · skip
                                            by_cases c_1_21 : x0 = 69
                                            · skip
                                              refine lv_tableIn (tgt := 165) hx hb d_M_longKind_1 (by rw [c_1_21]; decide) (by rw [c_1_21]; decide) (by rw [c_1_21] <;> rfl) (by decide) ?_
                                              refine lv_iconst (v := 3) hx hb d_M_longKind_165 (by decide) ?_
                                              exact W.iret (v := 3) hx hb hr (fun t ht hW => ⟨_, rfl, by rw [mF_StepMachineModel_longKind, if_neg c_1_0, if_neg c_1_1, if_neg c_1_2, if_neg c_1_3, if_neg c_1_4, if_neg c_1_5, if_neg c_1_6, if_neg c_1_7, if_neg c_1_8, if_neg c_1_9, if_neg c_1_10, if_neg c_1_11, if_neg c_1_12, if_neg c_1_13, if_neg c_1_14, if_neg c_1_15, if_neg c_1_16, if_neg c_1_17, if_neg c_1_18, if_neg c_1_19, if_neg c_1_20, if_pos c_1_21], ht⟩) (fun q h => by cases h) d_M_longKind_166
                                            · skip
                                              by_cases c_1_22 : x0 = 70
                                              · skip
                                                refine lv_tableIn (tgt := 170) hx hb d_M_longKind_1 (by rw [c_1_22]; decide) (by rw [c_1_22]; decide) (by rw [c_1_22] <;> rfl) (by decide) ?_
                                                refine lv_bipush (v := 27) hx hb d_M_longKind_170 (by decide) ?_
                                                exact W.iret (v := 27) hx hb hr (fun t ht hW => ⟨_, rfl, by rw [mF_StepMachineModel_longKind, if_neg c_1_0, if_neg c_1_1, if_neg c_1_2, if_neg c_1_3, if_neg c_1_4, if_neg c_1_5, if_neg c_1_6, if_neg c_1_7, if_neg c_1_8, if_neg c_1_9, if_neg c_1_10, if_neg c_1_11, if_neg c_1_12, if_neg c_1_13, if_neg c_1_14, if_neg c_1_15, if_neg c_1_16, if_neg c_1_17, if_neg c_1_18, if_neg c_1_19, if_neg c_1_20, if_neg c_1_21, if_pos c_1_22], ht⟩) (fun q h => by cases h) d_M_longKind_172
                                              · skip
                                                by_cases c_1_23 : x0 = 71
                                                · skip
                                                  refine lv_tableIn (tgt := 167) hx hb d_M_longKind_1 (by rw [c_1_23]; decide) (by rw [c_1_23]; decide) (by rw [c_1_23] <;> rfl) (by decide) ?_
                                                  refine lv_bipush (v := 47) hx hb d_M_longKind_167 (by decide) ?_
                                                  exact W.iret (v := 47) hx hb hr (fun t ht hW => ⟨_, rfl, by rw [mF_StepMachineModel_longKind, if_neg c_1_0, if_neg c_1_1, if_neg c_1_2, if_neg c_1_3, if_neg c_1_4, if_neg c_1_5, if_neg c_1_6, if_neg c_1_7, if_neg c_1_8, if_neg c_1_9, if_neg c_1_10, if_neg c_1_11, if_neg c_1_12, if_neg c_1_13, if_neg c_1_14, if_neg c_1_15, if_neg c_1_16, if_neg c_1_17, if_neg c_1_18, if_neg c_1_19, if_neg c_1_20, if_neg c_1_21, if_neg c_1_22, if_pos c_1_23], ht⟩) (fun q h => by cases h) d_M_longKind_169
                                                · skip
                                                  by_cases c_1_24 : x0 = 72
                                                  · skip
                                                    refine lv_tableIn (tgt := 165) hx hb d_M_longKind_1 (by rw [c_1_24]; decide) (by rw [c_1_24]; decide) (by rw [c_1_24] <;> rfl) (by decide) ?_
                                                    refine lv_iconst (v := 3) hx hb d_M_longKind_165 (by decide) ?_
                                                    exact W.iret (v := 3) hx hb hr (fun t ht hW => ⟨_, rfl, by rw [mF_StepMachineModel_longKind, if_neg c_1_0, if_neg c_1_1, if_neg c_1_2, if_neg c_1_3, if_neg c_1_4, if_neg c_1_5, if_neg c_1_6, if_neg c_1_7, if_neg c_1_8, if_neg c_1_9, if_neg c_1_10, if_neg c_1_11, if_neg c_1_12, if_neg c_1_13, if_neg c_1_14, if_neg c_1_15, if_neg c_1_16, if_neg c_1_17, if_neg c_1_18, if_neg c_1_19, if_neg c_1_20, if_neg c_1_21, if_neg c_1_22, if_neg c_1_23, if_pos c_1_24], ht⟩) (fun q h => by cases h) d_M_longKind_166
                                                  · skip
                                                    by_cases c_1_25 : x0 = 73
                                                    · skip
                                                      refine lv_tableIn (tgt := 170) hx hb d_M_longKind_1 (by rw [c_1_25]; decide) (by rw [c_1_25]; decide) (by rw [c_1_25] <;> rfl) (by decide) ?_
                                                      refine lv_bipush (v := 27) hx hb d_M_longKind_170 (by decide) ?_
                                                      exact W.iret (v := 27) hx hb hr (fun t ht hW => ⟨_, rfl, by rw [mF_StepMachineModel_longKind, if_neg c_1_0, if_neg c_1_1, if_neg c_1_2, if_neg c_1_3, if_neg c_1_4, if_neg c_1_5, if_neg c_1_6, if_neg c_1_7, if_neg c_1_8, if_neg c_1_9, if_neg c_1_10, if_neg c_1_11, if_neg c_1_12, if_neg c_1_13, if_neg c_1_14, if_neg c_1_15, if_neg c_1_16, if_neg c_1_17, if_neg c_1_18, if_neg c_1_19, if_neg c_1_20, if_neg c_1_21, if_neg c_1_22, if_neg c_1_23, if_neg c_1_24, if_pos c_1_25], ht⟩) (fun q h => by cases h) d_M_longKind_172
                                                    · skip
                                                      by_cases c_1_26 : x0 = 74
                                                      · skip
                                                        refine lv_tableIn (tgt := 130) hx hb d_M_longKind_1 (by rw [c_1_26]; decide) (by rw [c_1_26]; decide) (by rw [c_1_26] <;> rfl) (by decide) ?_
                                                        refine lv_bipush (v := 17) hx hb d_M_longKind_130 (by decide) ?_
                                                        exact W.iret (v := 17) hx hb hr (fun t ht hW => ⟨_, rfl, by rw [mF_StepMachineModel_longKind, if_neg c_1_0, if_neg c_1_1, if_neg c_1_2, if_neg c_1_3, if_neg c_1_4, if_neg c_1_5, if_neg c_1_6, if_neg c_1_7, if_neg c_1_8, if_neg c_1_9, if_neg c_1_10, if_neg c_1_11, if_neg c_1_12, if_neg c_1_13, if_neg c_1_14, if_neg c_1_15, if_neg c_1_16, if_neg c_1_17, if_neg c_1_18, if_neg c_1_19, if_neg c_1_20, if_neg c_1_21, if_neg c_1_22, if_neg c_1_23, if_neg c_1_24, if_neg c_1_25, if_pos c_1_26], ht⟩) (fun q h => by cases h) d_M_longKind_132
                                                      · skip
                                                        refine lv_tableOut (tgt := 170) hx hb d_M_longKind_1 (by have n_0 := lv_neT (a := 48) c_1_0 (by decide); have n_1 := lv_neT (a := 49) c_1_1 (by decide); have n_2 := lv_neT (a := 50) c_1_2 (by decide); have n_3 := lv_neT (a := 51) c_1_3 (by decide); have n_4 := lv_neT (a := 52) c_1_4 (by decide); have n_5 := lv_neT (a := 53) c_1_5 (by decide); have n_6 := lv_neT (a := 54) c_1_6 (by decide); have n_7 := lv_neT (a := 55) c_1_7 (by decide); have n_8 := lv_neT (a := 56) c_1_8 (by decide); have n_9 := lv_neT (a := 57) c_1_9 (by decide); have n_10 := lv_neT (a := 58) c_1_10 (by decide); have n_11 := lv_neT (a := 59) c_1_11 (by decide); have n_12 := lv_neT (a := 60) c_1_12 (by decide); have n_13 := lv_neT (a := 61) c_1_13 (by decide); have n_14 := lv_neT (a := 62) c_1_14 (by decide); have n_15 := lv_neT (a := 63) c_1_15 (by decide); have n_16 := lv_neT (a := 64) c_1_16 (by decide); have n_17 := lv_neT (a := 65) c_1_17 (by decide); have n_18 := lv_neT (a := 66) c_1_18 (by decide); have n_19 := lv_neT (a := 67) c_1_19 (by decide); have n_20 := lv_neT (a := 68) c_1_20 (by decide); have n_21 := lv_neT (a := 69) c_1_21 (by decide); have n_22 := lv_neT (a := 70) c_1_22 (by decide); have n_23 := lv_neT (a := 71) c_1_23 (by decide); have n_24 := lv_neT (a := 72) c_1_24 (by decide); have n_25 := lv_neT (a := 73) c_1_25 (by decide); have n_26 := lv_neT (a := 74) c_1_26 (by decide); omega) (by decide) ?_
                                                        refine lv_bipush (v := 27) hx hb d_M_longKind_170 (by decide) ?_
                                                        exact W.iret (v := 27) hx hb hr (fun t ht hW => ⟨_, rfl, by rw [mF_StepMachineModel_longKind, if_neg c_1_0, if_neg c_1_1, if_neg c_1_2, if_neg c_1_3, if_neg c_1_4, if_neg c_1_5, if_neg c_1_6, if_neg c_1_7, if_neg c_1_8, if_neg c_1_9, if_neg c_1_10, if_neg c_1_11, if_neg c_1_12, if_neg c_1_13, if_neg c_1_14, if_neg c_1_15, if_neg c_1_16, if_neg c_1_17, if_neg c_1_18, if_neg c_1_19, if_neg c_1_20, if_neg c_1_21, if_neg c_1_22, if_neg c_1_23, if_neg c_1_24, if_neg c_1_25, if_neg c_1_26], ht⟩) (fun q h => by cases h) d_M_longKind_172
def mF_StepMachineModel_truth (x0 : Int32) : Int32 := (if x0 = 0 then 0 else 1)
set_option maxHeartbeats 4000000 in
set_option maxRecDepth 100000 in
theorem mc_StepMachineModel_truth (l : Launch) (D : va_G) (tc : Nat → ClassId) (tb : Nat → Nat) (z0 : Nat) (x0 : Int32) : Met l y_M_truth (wM y_M_truth b_M_truth 1 (some .int)) ({ frames := 0, cells := 0, slots := 0, locals := 0 }) (va_Pc [.int x0] (Pr D tc tb z0 [])) (vp_Si (fun r => r = (mF_StepMachineModel_truth x0))) 0 0 (fun _ => False) := by
  refine Met.ofW (cc := b_M_truth) (maxL := 1) (ret := (some .int)) (by decide) rfl ?_
  intro p e s m args below meth c s₁ B hml hv
  obtain ⟨rfl, hP, hK, hB⟩ := hv
  have hx := B.exec
  have hb := B.bytes
  have hr := B.returns
  have hts : ∀ w ∈ wALL, w.before _ s = true := fun w h => atoms_spec (ws := (wM y_M_truth b_M_truth 1 (some .int))) B.pre w (List.mem_cons_of_mem _ h)
  have hown : s.vm.findClass "StepMachineModel" = some m.cls := findClass_of_methodNamed B.named
  have hlocks := B.notSynchronized
  have hl := lv_entry ([.int x0]) (n := 1) (Nat.le_of_ble_eq_true rfl)
  rw [lg_entry_eq]
  generalize (lg_sl ([.int x0]) ++ List.replicate (1 - (lg_sl ([.int x0])).length) Slot.unset).toArray = ls at hl ⊢
  have hl : lv_has ls 1 [(0, .int x0)] := hl
  refine lv_iload_n hx hb d_M_truth_0 rfl (lv_at hl 0 rfl) ?_
  refine lv_if_eq (tgt := 8) hx hb d_M_truth_1 (by decide) (fun c_1 => ?_) (fun c_1 => ?_)
  · skip
    refine lv_iconst (v := 0) hx hb d_M_truth_8 (by decide) ?_
    exact W.iret (v := 0) hx hb hr (fun t ht hW => ⟨_, rfl, by rw [mF_StepMachineModel_truth, if_pos c_1], ht⟩) (fun q h => by cases h) d_M_truth_9
  · skip
    refine lv_iconst (v := 1) hx hb d_M_truth_4 (by decide) ?_
    refine lv_goto (tgt := 9) hx hb d_M_truth_5 (by decide) ?_
    exact W.iret (v := 1) hx hb hr (fun t ht hW => ⟨_, rfl, by rw [mF_StepMachineModel_truth, if_neg c_1], ht⟩) (fun q h => by cases h) d_M_truth_9
def mF_StepMachineModel_isStep (x0 : Int64) (x1 : Int64) (x2 : Int64) (x3 : Int64) : Int32 := (if (lg_cmp x0 x1) < 0 then 0 else (if 0 < (lg_cmp x0 x2) then 0 else (if (lg_cmp (x0 - x0 / x3 * x3) 0) = 0 then 1 else 0)))
set_option maxHeartbeats 4000000 in
set_option maxRecDepth 100000 in
theorem mc_StepMachineModel_isStep (l : Launch) (D : va_G) (tc : Nat → ClassId) (tb : Nat → Nat) (z0 : Nat) (x0 : Int64) (x1 : Int64) (x2 : Int64) (x3 : Int64) (hs0 : ¬ x3 = 0) : Met l y_M_isStep (wM y_M_isStep b_M_isStep 8 (some .boolean)) ({ frames := 0, cells := 0, slots := 0, locals := 0 }) (va_Pc [.long x0, .long x1, .long x2, .long x3] (Pr D tc tb z0 [])) (vp_Si (fun r => r = (mF_StepMachineModel_isStep x0 x1 x2 x3))) 0 0 (fun _ => False) := by
  refine Met.ofW (cc := b_M_isStep) (maxL := 8) (ret := (some .boolean)) (by decide) rfl ?_
  intro p e s m args below meth c s₁ B hml hv
  obtain ⟨rfl, hP, hK, hB⟩ := hv
  have hx := B.exec
  have hb := B.bytes
  have hr := B.returns
  have hts : ∀ w ∈ wALL, w.before _ s = true := fun w h => atoms_spec (ws := (wM y_M_isStep b_M_isStep 8 (some .boolean))) B.pre w (List.mem_cons_of_mem _ h)
  have hown : s.vm.findClass "StepMachineModel" = some m.cls := findClass_of_methodNamed B.named
  have hlocks := B.notSynchronized
  have hl := lv_entry ([.long x0, .long x1, .long x2, .long x3]) (n := 8) (Nat.le_of_ble_eq_true rfl)
  rw [lg_entry_eq]
  generalize (lg_sl ([.long x0, .long x1, .long x2, .long x3]) ++ List.replicate (8 - (lg_sl ([.long x0, .long x1, .long x2, .long x3])).length) Slot.unset).toArray = ls at hl ⊢
  have hl : lv_has ls 8 [(0, .long x0), (2, .long x1), (4, .long x2), (6, .long x3)] := hl
  refine lv_lload_n hx hb d_M_isStep_0 rfl (lv_at hl 0 rfl) ?_
  refine lv_lload_n hx hb d_M_isStep_1 rfl (lv_at hl 1 rfl) ?_
  refine W.lcmp hx hb d_M_isStep_2 ?_
  refine lv_if_lt (tgt := 26) hx hb d_M_isStep_3 (by decide) (fun c_3 => ?_) (fun c_3 => ?_)
  · skip
    refine lv_iconst (v := 0) hx hb d_M_isStep_26 (by decide) ?_
    exact W.zret (v := 0) hx hb hr rfl (fun t ht hW => ⟨_, rfl, by rw [mF_StepMachineModel_isStep, if_pos c_3], ht⟩) (fun q h => by cases h) d_M_isStep_27
  · skip
    refine lv_lload_n hx hb d_M_isStep_6 rfl (lv_at hl 0 rfl) ?_
    refine lv_lload hx hb d_M_isStep_7 (lv_at hl 2 rfl) ?_
    refine W.lcmp hx hb d_M_isStep_9 ?_
    refine lv_if_gt (tgt := 26) hx hb d_M_isStep_10 (by decide) (fun c_10 => ?_) (fun c_10 => ?_)
    · skip
      refine lv_iconst (v := 0) hx hb d_M_isStep_26 (by decide) ?_
      exact W.zret (v := 0) hx hb hr rfl (fun t ht hW => ⟨_, rfl, by rw [mF_StepMachineModel_isStep, if_neg c_3, if_pos c_10], ht⟩) (fun q h => by cases h) d_M_isStep_27
    · skip
      refine lv_lload_n hx hb d_M_isStep_13 rfl (lv_at hl 0 rfl) ?_
      refine lv_lload hx hb d_M_isStep_14 (lv_at hl 3 rfl) ?_
      refine lv_lrem hx hb d_M_isStep_16 hs0 ?_
      refine lv_lconst (v := 0) hx hb d_M_isStep_17 (by decide) ?_
      refine W.lcmp hx hb d_M_isStep_18 ?_
      refine lv_if_ne (tgt := 26) hx hb d_M_isStep_19 (by decide) (fun c_19 => ?_) (fun c_19 => ?_)
      · skip
        refine lv_iconst (v := 0) hx hb d_M_isStep_26 (by decide) ?_
        exact W.zret (v := 0) hx hb hr rfl (fun t ht hW => ⟨_, rfl, by rw [mF_StepMachineModel_isStep, if_neg c_3, if_neg c_10, if_neg c_19], ht⟩) (fun q h => by cases h) d_M_isStep_27
      · skip
        refine lv_iconst (v := 1) hx hb d_M_isStep_22 (by decide) ?_
        refine lv_goto (tgt := 27) hx hb d_M_isStep_23 (by decide) ?_
        exact W.zret (v := 1) hx hb hr rfl (fun t ht hW => ⟨_, rfl, by rw [mF_StepMachineModel_isStep, if_neg c_3, if_neg c_10, if_pos c_19], ht⟩) (fun q h => by cases h) d_M_isStep_27
theorem bo_mF_StepMachineModel_isStep (a b c d : Int64) : mF_StepMachineModel_isStep a b c d = 0 ∨ mF_StepMachineModel_isStep a b c d = 1 := by
  rw [mF_StepMachineModel_isStep]
  repeat' split
  all_goals first | exact Or.inl rfl | exact Or.inr rfl
theorem bits_rng (x : Int32) : (mF_StepMachineModel_bitsOf x).toInt = 32 ∨ (mF_StepMachineModel_bitsOf x).toInt = 16 := by
  rw [mF_StepMachineModel_bitsOf]
  split
  · exact Or.inr (by decide)
  · exact Or.inl (by decide)
theorem bits_32 {x : Int32} (h : (mF_StepMachineModel_bitsOf x).toInt = 32) : x.toInt < 48 := by
  rw [mF_StepMachineModel_bitsOf] at h
  split at h
  · exact absurd h (by decide)
  · rename_i h1
    have a := ob_nle h1
    rw [e_48] at a
    exact a
theorem ti_bd {x : Int32} (hk : 0 ≤ x.toInt ∧ x.toInt < 75) : ((32 * x) + mF_StepMachineModel_bitsOf x).toInt = 32 * x.toInt + (mF_StepMachineModel_bitsOf x).toInt := by
  have h := ti_32 hk
  rcases bits_rng x with h1 | h1 <;> (rw [ti_add (by omega) (by omega), h])
theorem ob_row1 {x k : Int32} (hk : 0 ≤ x.toInt ∧ x.toInt < 75) (c : ¬ ((32 * x) + mF_StepMachineModel_bitsOf x) ≤ k) (hq : 0 ≤ k.toInt) : vp_in k 2400 := by
  have a := ob_nle c
  rw [ti_bd hk] at a
  rcases bits_rng x with h1 | h1
  · have := bits_32 h1
    exact ti_in hq (by omega)
  · exact ti_in hq (by omega)
theorem ob_row2 {x k : Int32} (hk : 0 ≤ x.toInt ∧ x.toInt < 75) (c : ¬ mF_StepMachineModel_bitsOf x ≤ k) (hq : 0 ≤ k.toInt) : vp_in ((32 * x) + k) 2400 := by
  have a := ob_nle c
  have h := ti_32 hk
  rcases bits_rng x with h1 | h1
  · have := bits_32 h1
    exact ti_in (by rw [ti_add (by omega) (by omega)]; omega) (by rw [ti_add (by omega) (by omega)]; omega)
  · exact ti_in (by rw [ti_add (by omega) (by omega)]; omega) (by rw [ti_add (by omega) (by omega)]; omega)
theorem nn_32 {x : Int32} (hk : 0 ≤ x.toInt ∧ x.toInt < 75) : 0 ≤ (32 * x).toInt := by rw [ti_32 hk]; omega
def rng75 (r : Int32) : Prop := 0 ≤ r.toInt ∧ r.toInt < 75
theorem ite_p {P : Int32 → Prop} {c : Prop} [Decidable c] {a b : Int32} (ha : P a) (hb : P b) : P (if c then a else b) := by
  split
  · exact ha
  · exact hb
theorem lk_rng (x : Int32) : rng75 (mF_StepMachineModel_longKind x) := by
  rw [mF_StepMachineModel_longKind]
  iterate 27 (refine ite_p (P := rng75) (by unfold rng75; decide) ?_)
  unfold rng75
  decide
theorem k75 {b k : Int32} (hq : 0 ≤ k.toInt) (c : ¬ b ≤ k) (hb : b.toInt ≤ 75) : 0 ≤ k.toInt ∧ k.toInt < 75 := by
  have a := ob_nle c
  exact ⟨hq, by omega⟩
theorem bare_ne {x : Int32} (h : ¬ x = 0) : ¬ mF_StepMachineModel_bare x = 0 := bare_ne0 h
def mF_StepMachineModel_isImmediate (x0 : Int32) (x1 : Int64) : Int32 := (if 2 ≤ x0 then (if x0 = 2 then (mF_StepMachineModel_isStep x1 (-1048576) 1048574 2) else (if (mF_StepMachineModel_isBranch x0) = 0 then (if (mF_StepMachineModel_isShift x0) = 0 then (if 48 ≤ x0 then (if x0 = 48 then (mF_StepMachineModel_isStep x1 4 1020 4) else (if x0 = 49 then (mF_StepMachineModel_isStep x1 0 124 4) else (if x0 = 50 then (mF_StepMachineModel_isStep x1 0 124 4) else (if x0 = 51 then (mF_StepMachineModel_isStep x1 0 252 4) else (if x0 = 52 then (if (lg_cmp x1 0) = 0 then 0 else (if (mF_StepMachineModel_isStep x1 (-32) 31 1) = 0 then 0 else 1)) else (if x0 = 53 then (mF_StepMachineModel_isStep x1 (-2048) 2046 2) else (if x0 = 54 then (mF_StepMachineModel_isStep x1 (-32) 31 1) else (if x0 = 55 then (if (lg_cmp x1 0) = 0 then 0 else (if (mF_StepMachineModel_isStep x1 (-512) 496 16) = 0 then 0 else 1)) else (if x0 = 56 then (if (mF_StepMachineModel_isStep x1 1 31 1) = 0 then (if (mF_StepMachineModel_isStep x1 1048544 1048575 1) = 0 then 0 else 1) else 1) else (if x0 = 57 then (mF_StepMachineModel_isStep x1 1 31 1) else (if x0 = 58 then (mF_StepMachineModel_isStep x1 1 31 1) else (if x0 = 59 then (mF_StepMachineModel_isStep x1 (-32) 31 1) else (if x0 = 60 then (mF_StepMachineModel_isStep x1 0 252 4) else (if x0 = 61 then (mF_StepMachineModel_isStep x1 0 252 4) else (if x0 = 62 then (mF_StepMachineModel_isStep x1 0 252 4) else (if x0 = 63 then (mF_StepMachineModel_isStep x1 0 252 4) else (if x0 = 64 then (mF_StepMachineModel_isStep x1 (-2048) 2046 2) else (if x0 = 65 then (mF_StepMachineModel_isStep x1 (-256) 254 2) else (if x0 = 66 then (mF_StepMachineModel_isStep x1 (-256) 254 2) else (if x0 = 67 then (mF_StepMachineModel_isStep x1 1 31 1) else (mF_StepMachineModel_isStep x1 0 252 4))))))))))))))))))))) else (mF_StepMachineModel_isStep x1 (-2048) 2047 1)) else (mF_StepMachineModel_isStep x1 0 31 1)) else (mF_StepMachineModel_isStep x1 (-4096) 4094 2))) else (mF_StepMachineModel_isStep x1 0 1048575 1))
set_option maxHeartbeats 4000000 in
set_option maxRecDepth 100000 in
theorem mc_StepMachineModel_isImmediate (l : Launch) (D : va_G) (tc : Nat → ClassId) (tb : Nat → Nat) (z0 : Nat) (x0 : Int32) (x1 : Int64) : Met l y_M_isImmediate (wM y_M_isImmediate b_M_isImmediate 3 (some .boolean)) ({ frames := 1, cells := 0, slots := 0, locals := 27 }) (va_Pc [.int x0, .long x1] (Pr D tc tb z0 [])) (vp_Si (fun r => r = (mF_StepMachineModel_isImmediate x0 x1))) 0 0 (fun _ => False) := by
  refine Met.ofW (cc := b_M_isImmediate) (maxL := 3) (ret := (some .boolean)) (by decide) rfl ?_
  intro p e s m args below meth c s₁ B hml hv
  obtain ⟨rfl, hP, hK, hB⟩ := hv
  have hx := B.exec
  have hb := B.bytes
  have hr := B.returns
  have hts : ∀ w ∈ wALL, w.before _ s = true := fun w h => atoms_spec (ws := (wM y_M_isImmediate b_M_isImmediate 3 (some .boolean))) B.pre w (List.mem_cons_of_mem _ h)
  have hown : s.vm.findClass "StepMachineModel" = some m.cls := findClass_of_methodNamed B.named
  have hlocks := B.notSynchronized
  have hl := lv_entry ([.int x0, .long x1]) (n := 3) (Nat.le_of_ble_eq_true rfl)
  rw [lg_entry_eq]
  generalize (lg_sl ([.int x0, .long x1]) ++ List.replicate (3 - (lg_sl ([.int x0, .long x1])).length) Slot.unset).toArray = ls at hl ⊢
  have hl : lv_has ls 3 [(0, .int x0), (1, .long x1)] := hl
  refine lv_iload_n hx hb d_M_isImmediate_0 rfl (lv_at hl 0 rfl) ?_
  refine lv_iconst (v := 2) hx hb d_M_isImmediate_1 (by decide) ?_
  refine lv_icmp_ge (tgt := 15) hx hb d_M_isImmediate_2 (by decide) (fun c_2 => ?_) (fun c_2 => ?_)
  · skip
    refine lv_iload_n hx hb d_M_isImmediate_15 rfl (lv_at hl 0 rfl) ?_
    refine lv_iconst (v := 2) hx hb d_M_isImmediate_16 (by decide) ?_
    refine lv_icmp_ne (tgt := 34) hx hb d_M_isImmediate_17 (by decide) (fun c_17 => ?_) (fun c_17 => ?_)
    · skip
      refine lv_iload_n hx hb d_M_isImmediate_34 rfl (lv_at hl 0 rfl) ?_
      refine roSi (As := [.int x0]) (rest := []) ⟨hx, hb, hml, hown, hts⟩ (mc_StepMachineModel_isBranch l D tc tb z0 x0) (va_cwS 1 hts (goodS a_609 a_610 a_10 a_611) rfl rfl rfl hs_M_isBranch ⟨Nat.le_of_ble_eq_true rfl, Nat.le_of_ble_eq_true rfl⟩) (hP.sub [] rfl) hK hB rfl hl.1 rfl (Nat.le_of_ble_eq_true rfl) d_M_isImmediate_35 ⟨Nat.zero_le _, Nat.zero_le _⟩ ?_
      refine lv_if_eq (tgt := 55) hx hb d_M_isImmediate_38 (by decide) (fun c_38 => ?_) (fun c_38 => ?_)
      · skip
        refine lv_iload_n hx hb d_M_isImmediate_55 rfl (lv_at hl 0 rfl) ?_
        refine roSi (As := [.int x0]) (rest := []) ⟨hx, hb, hml, hown, hts⟩ (mc_StepMachineModel_isShift l D tc tb z0 x0) (va_cwS 1 hts (goodS a_618 a_619 a_10 a_620) rfl rfl rfl hs_M_isShift ⟨Nat.le_of_ble_eq_true rfl, Nat.le_of_ble_eq_true rfl⟩) (hP.sub [] rfl) hK hB rfl hl.1 rfl (Nat.le_of_ble_eq_true rfl) d_M_isImmediate_56 ⟨Nat.zero_le _, Nat.zero_le _⟩ ?_
        refine lv_if_eq (tgt := 72) hx hb d_M_isImmediate_59 (by decide) (fun c_59 => ?_) (fun c_59 => ?_)
        · skip
          refine lv_iload_n hx hb d_M_isImmediate_72 rfl (lv_at hl 0 rfl) ?_
          refine lv_bipush (v := 48) hx hb d_M_isImmediate_73 (by decide) ?_
          refine lv_icmp_ge (tgt := 90) hx hb d_M_isImmediate_75 (by decide) (fun c_75 => ?_) (fun c_75 => ?_)
          · skip
            refine lv_iload_n hx hb d_M_isImmediate_90 rfl (lv_at hl 0 rfl) ?_
            by_cases c_91_0 : x0 = 48
            · skip
              refine lv_tableIn (tgt := 184) hx hb d_M_isImmediate_91 (by rw [c_91_0]; decide) (by rw [c_91_0]; decide) (by rw [c_91_0] <;> rfl) (by decide) ?_
              refine lv_lload_n hx hb d_M_isImmediate_184 rfl (lv_at hl 1 rfl) ?_
              refine lv_ldc2 (v := 4) hx hb hown (hts _ a_812) d_M_isImmediate_185 ?_
              refine lv_ldc2 (v := 1020) hx hb hown (hts _ a_813) d_M_isImmediate_188 ?_
              refine lv_ldc2 (v := 4) hx hb hown (hts _ a_812) d_M_isImmediate_191 ?_
              refine roSi (As := [.long x1, .long 4, .long 1020, .long 4]) (rest := []) ⟨hx, hb, hml, hown, hts⟩ (mc_StepMachineModel_isStep l D tc tb z0 x1 4 1020 4 (by decide)) (va_cwS 4 hts (goodS a_802 a_803 a_10 a_804) rfl rfl rfl hs_M_isStep ⟨Nat.le_of_ble_eq_true rfl, Nat.le_of_ble_eq_true rfl⟩) (hP.sub [] rfl) hK hB rfl hl.1 rfl (Nat.le_of_ble_eq_true rfl) d_M_isImmediate_194 ⟨Nat.zero_le _, Nat.zero_le _⟩ ?_
              exact W.zret (v := (mF_StepMachineModel_isStep x1 4 1020 4)) hx hb hr (zb_of (bo_mF_StepMachineModel_isStep _ _ _ _)) (fun t ht hW => ⟨_, rfl, by rw [mF_StepMachineModel_isImmediate, if_pos c_2, if_neg c_17, if_pos c_38, if_pos c_59, if_pos c_75, if_pos c_91_0], ht⟩) (fun q h => by cases h) d_M_isImmediate_197
            · skip
              by_cases c_91_1 : x0 = 49
              · skip
                refine lv_tableIn (tgt := 198) hx hb d_M_isImmediate_91 (by rw [c_91_1]; decide) (by rw [c_91_1]; decide) (by rw [c_91_1] <;> rfl) (by decide) ?_
                refine lv_lload_n hx hb d_M_isImmediate_198 rfl (lv_at hl 1 rfl) ?_
                refine lv_lconst (v := 0) hx hb d_M_isImmediate_199 (by decide) ?_
                refine lv_ldc2 (v := 124) hx hb hown (hts _ a_814) d_M_isImmediate_200 ?_
                refine lv_ldc2 (v := 4) hx hb hown (hts _ a_812) d_M_isImmediate_203 ?_
                refine roSi (As := [.long x1, .long 0, .long 124, .long 4]) (rest := []) ⟨hx, hb, hml, hown, hts⟩ (mc_StepMachineModel_isStep l D tc tb z0 x1 0 124 4 (by decide)) (va_cwS 4 hts (goodS a_802 a_803 a_10 a_804) rfl rfl rfl hs_M_isStep ⟨Nat.le_of_ble_eq_true rfl, Nat.le_of_ble_eq_true rfl⟩) (hP.sub [] rfl) hK hB rfl hl.1 rfl (Nat.le_of_ble_eq_true rfl) d_M_isImmediate_206 ⟨Nat.zero_le _, Nat.zero_le _⟩ ?_
                exact W.zret (v := (mF_StepMachineModel_isStep x1 0 124 4)) hx hb hr (zb_of (bo_mF_StepMachineModel_isStep _ _ _ _)) (fun t ht hW => ⟨_, rfl, by rw [mF_StepMachineModel_isImmediate, if_pos c_2, if_neg c_17, if_pos c_38, if_pos c_59, if_pos c_75, if_neg c_91_0, if_pos c_91_1], ht⟩) (fun q h => by cases h) d_M_isImmediate_209
              · skip
                by_cases c_91_2 : x0 = 50
                · skip
                  refine lv_tableIn (tgt := 198) hx hb d_M_isImmediate_91 (by rw [c_91_2]; decide) (by rw [c_91_2]; decide) (by rw [c_91_2] <;> rfl) (by decide) ?_
                  refine lv_lload_n hx hb d_M_isImmediate_198 rfl (lv_at hl 1 rfl) ?_
                  refine lv_lconst (v := 0) hx hb d_M_isImmediate_199 (by decide) ?_
                  refine lv_ldc2 (v := 124) hx hb hown (hts _ a_814) d_M_isImmediate_200 ?_
                  refine lv_ldc2 (v := 4) hx hb hown (hts _ a_812) d_M_isImmediate_203 ?_
                  refine roSi (As := [.long x1, .long 0, .long 124, .long 4]) (rest := []) ⟨hx, hb, hml, hown, hts⟩ (mc_StepMachineModel_isStep l D tc tb z0 x1 0 124 4 (by decide)) (va_cwS 4 hts (goodS a_802 a_803 a_10 a_804) rfl rfl rfl hs_M_isStep ⟨Nat.le_of_ble_eq_true rfl, Nat.le_of_ble_eq_true rfl⟩) (hP.sub [] rfl) hK hB rfl hl.1 rfl (Nat.le_of_ble_eq_true rfl) d_M_isImmediate_206 ⟨Nat.zero_le _, Nat.zero_le _⟩ ?_
                  exact W.zret (v := (mF_StepMachineModel_isStep x1 0 124 4)) hx hb hr (zb_of (bo_mF_StepMachineModel_isStep _ _ _ _)) (fun t ht hW => ⟨_, rfl, by rw [mF_StepMachineModel_isImmediate, if_pos c_2, if_neg c_17, if_pos c_38, if_pos c_59, if_pos c_75, if_neg c_91_0, if_neg c_91_1, if_pos c_91_2], ht⟩) (fun q h => by cases h) d_M_isImmediate_209
                · skip
                  by_cases c_91_3 : x0 = 51
                  · skip
                    refine lv_tableIn (tgt := 346) hx hb d_M_isImmediate_91 (by rw [c_91_3]; decide) (by rw [c_91_3]; decide) (by rw [c_91_3] <;> rfl) (by decide) ?_
                    refine lv_lload_n hx hb d_M_isImmediate_346 rfl (lv_at hl 1 rfl) ?_
                    refine lv_lconst (v := 0) hx hb d_M_isImmediate_347 (by decide) ?_
                    refine lv_ldc2 (v := 252) hx hb hown (hts _ a_823) d_M_isImmediate_348 ?_
                    refine lv_ldc2 (v := 4) hx hb hown (hts _ a_812) d_M_isImmediate_351 ?_
                    refine roSi (As := [.long x1, .long 0, .long 252, .long 4]) (rest := []) ⟨hx, hb, hml, hown, hts⟩ (mc_StepMachineModel_isStep l D tc tb z0 x1 0 252 4 (by decide)) (va_cwS 4 hts (goodS a_802 a_803 a_10 a_804) rfl rfl rfl hs_M_isStep ⟨Nat.le_of_ble_eq_true rfl, Nat.le_of_ble_eq_true rfl⟩) (hP.sub [] rfl) hK hB rfl hl.1 rfl (Nat.le_of_ble_eq_true rfl) d_M_isImmediate_354 ⟨Nat.zero_le _, Nat.zero_le _⟩ ?_
                    exact W.zret (v := (mF_StepMachineModel_isStep x1 0 252 4)) hx hb hr (zb_of (bo_mF_StepMachineModel_isStep _ _ _ _)) (fun t ht hW => ⟨_, rfl, by rw [mF_StepMachineModel_isImmediate, if_pos c_2, if_neg c_17, if_pos c_38, if_pos c_59, if_pos c_75, if_neg c_91_0, if_neg c_91_1, if_neg c_91_2, if_pos c_91_3], ht⟩) (fun q h => by cases h) d_M_isImmediate_357
                  · skip
                    by_cases c_91_4 : x0 = 52
                    · skip
                      refine lv_tableIn (tgt := 210) hx hb d_M_isImmediate_91 (by rw [c_91_4]; decide) (by rw [c_91_4]; decide) (by rw [c_91_4] <;> rfl) (by decide) ?_
                      refine lv_lload_n hx hb d_M_isImmediate_210 rfl (lv_at hl 1 rfl) ?_
                      refine lv_lconst (v := 0) hx hb d_M_isImmediate_211 (by decide) ?_
                      refine W.lcmp hx hb d_M_isImmediate_212 ?_
                      refine lv_if_eq (tgt := 234) hx hb d_M_isImmediate_213 (by decide) (fun c_213 => ?_) (fun c_213 => ?_)
                      · skip
                        refine lv_iconst (v := 0) hx hb d_M_isImmediate_234 (by decide) ?_
                        exact W.zret (v := 0) hx hb hr rfl (fun t ht hW => ⟨_, rfl, by rw [mF_StepMachineModel_isImmediate, if_pos c_2, if_neg c_17, if_pos c_38, if_pos c_59, if_pos c_75, if_neg c_91_0, if_neg c_91_1, if_neg c_91_2, if_neg c_91_3, if_pos c_91_4, if_pos c_213], ht⟩) (fun q h => by cases h) d_M_isImmediate_235
                      · skip
                        refine lv_lload_n hx hb d_M_isImmediate_216 rfl (lv_at hl 1 rfl) ?_
                        refine lv_ldc2 (v := (-32)) hx hb hown (hts _ a_815) d_M_isImmediate_217 ?_
                        refine lv_ldc2 (v := 31) hx hb hown (hts _ a_809) d_M_isImmediate_220 ?_
                        refine lv_lconst (v := 1) hx hb d_M_isImmediate_223 (by decide) ?_
                        refine roSi (As := [.long x1, .long (-32), .long 31, .long 1]) (rest := []) ⟨hx, hb, hml, hown, hts⟩ (mc_StepMachineModel_isStep l D tc tb z0 x1 (-32) 31 1 (by decide)) (va_cwS 4 hts (goodS a_802 a_803 a_10 a_804) rfl rfl rfl hs_M_isStep ⟨Nat.le_of_ble_eq_true rfl, Nat.le_of_ble_eq_true rfl⟩) (hP.sub [] rfl) hK hB rfl hl.1 rfl (Nat.le_of_ble_eq_true rfl) d_M_isImmediate_224 ⟨Nat.zero_le _, Nat.zero_le _⟩ ?_
                        refine lv_if_eq (tgt := 234) hx hb d_M_isImmediate_227 (by decide) (fun c_227 => ?_) (fun c_227 => ?_)
                        · skip
                          refine lv_iconst (v := 0) hx hb d_M_isImmediate_234 (by decide) ?_
                          exact W.zret (v := 0) hx hb hr rfl (fun t ht hW => ⟨_, rfl, by rw [mF_StepMachineModel_isImmediate, if_pos c_2, if_neg c_17, if_pos c_38, if_pos c_59, if_pos c_75, if_neg c_91_0, if_neg c_91_1, if_neg c_91_2, if_neg c_91_3, if_pos c_91_4, if_neg c_213, if_pos c_227], ht⟩) (fun q h => by cases h) d_M_isImmediate_235
                        · skip
                          refine lv_iconst (v := 1) hx hb d_M_isImmediate_230 (by decide) ?_
                          refine lv_goto (tgt := 235) hx hb d_M_isImmediate_231 (by decide) ?_
                          exact W.zret (v := 1) hx hb hr rfl (fun t ht hW => ⟨_, rfl, by rw [mF_StepMachineModel_isImmediate, if_pos c_2, if_neg c_17, if_pos c_38, if_pos c_59, if_pos c_75, if_neg c_91_0, if_neg c_91_1, if_neg c_91_2, if_neg c_91_3, if_pos c_91_4, if_neg c_213, if_neg c_227], ht⟩) (fun q h => by cases h) d_M_isImmediate_235
                    · skip
                      by_cases c_91_5 : x0 = 53
                      · skip
                        refine lv_tableIn (tgt := 236) hx hb d_M_isImmediate_91 (by rw [c_91_5]; decide) (by rw [c_91_5]; decide) (by rw [c_91_5] <;> rfl) (by decide) ?_
                        refine lv_lload_n hx hb d_M_isImmediate_236 rfl (lv_at hl 1 rfl) ?_
                        refine lv_ldc2 (v := (-2048)) hx hb hown (hts _ a_810) d_M_isImmediate_237 ?_
                        refine lv_ldc2 (v := 2046) hx hb hown (hts _ a_816) d_M_isImmediate_240 ?_
                        refine lv_ldc2 (v := 2) hx hb hown (hts _ a_753) d_M_isImmediate_243 ?_
                        refine roSi (As := [.long x1, .long (-2048), .long 2046, .long 2]) (rest := []) ⟨hx, hb, hml, hown, hts⟩ (mc_StepMachineModel_isStep l D tc tb z0 x1 (-2048) 2046 2 (by decide)) (va_cwS 4 hts (goodS a_802 a_803 a_10 a_804) rfl rfl rfl hs_M_isStep ⟨Nat.le_of_ble_eq_true rfl, Nat.le_of_ble_eq_true rfl⟩) (hP.sub [] rfl) hK hB rfl hl.1 rfl (Nat.le_of_ble_eq_true rfl) d_M_isImmediate_246 ⟨Nat.zero_le _, Nat.zero_le _⟩ ?_
                        exact W.zret (v := (mF_StepMachineModel_isStep x1 (-2048) 2046 2)) hx hb hr (zb_of (bo_mF_StepMachineModel_isStep _ _ _ _)) (fun t ht hW => ⟨_, rfl, by rw [mF_StepMachineModel_isImmediate, if_pos c_2, if_neg c_17, if_pos c_38, if_pos c_59, if_pos c_75, if_neg c_91_0, if_neg c_91_1, if_neg c_91_2, if_neg c_91_3, if_neg c_91_4, if_pos c_91_5], ht⟩) (fun q h => by cases h) d_M_isImmediate_249
                      · skip
                        by_cases c_91_6 : x0 = 54
                        · skip
                          refine lv_tableIn (tgt := 250) hx hb d_M_isImmediate_91 (by rw [c_91_6]; decide) (by rw [c_91_6]; decide) (by rw [c_91_6] <;> rfl) (by decide) ?_
                          refine lv_lload_n hx hb d_M_isImmediate_250 rfl (lv_at hl 1 rfl) ?_
                          refine lv_ldc2 (v := (-32)) hx hb hown (hts _ a_815) d_M_isImmediate_251 ?_
                          refine lv_ldc2 (v := 31) hx hb hown (hts _ a_809) d_M_isImmediate_254 ?_
                          refine lv_lconst (v := 1) hx hb d_M_isImmediate_257 (by decide) ?_
                          refine roSi (As := [.long x1, .long (-32), .long 31, .long 1]) (rest := []) ⟨hx, hb, hml, hown, hts⟩ (mc_StepMachineModel_isStep l D tc tb z0 x1 (-32) 31 1 (by decide)) (va_cwS 4 hts (goodS a_802 a_803 a_10 a_804) rfl rfl rfl hs_M_isStep ⟨Nat.le_of_ble_eq_true rfl, Nat.le_of_ble_eq_true rfl⟩) (hP.sub [] rfl) hK hB rfl hl.1 rfl (Nat.le_of_ble_eq_true rfl) d_M_isImmediate_258 ⟨Nat.zero_le _, Nat.zero_le _⟩ ?_
                          exact W.zret (v := (mF_StepMachineModel_isStep x1 (-32) 31 1)) hx hb hr (zb_of (bo_mF_StepMachineModel_isStep _ _ _ _)) (fun t ht hW => ⟨_, rfl, by rw [mF_StepMachineModel_isImmediate, if_pos c_2, if_neg c_17, if_pos c_38, if_pos c_59, if_pos c_75, if_neg c_91_0, if_neg c_91_1, if_neg c_91_2, if_neg c_91_3, if_neg c_91_4, if_neg c_91_5, if_pos c_91_6], ht⟩) (fun q h => by cases h) d_M_isImmediate_261
                        · skip
                          by_cases c_91_7 : x0 = 55
                          · skip
                            refine lv_tableIn (tgt := 262) hx hb d_M_isImmediate_91 (by rw [c_91_7]; decide) (by rw [c_91_7]; decide) (by rw [c_91_7] <;> rfl) (by decide) ?_
                            refine lv_lload_n hx hb d_M_isImmediate_262 rfl (lv_at hl 1 rfl) ?_
                            refine lv_lconst (v := 0) hx hb d_M_isImmediate_263 (by decide) ?_
                            refine W.lcmp hx hb d_M_isImmediate_264 ?_
                            refine lv_if_eq (tgt := 288) hx hb d_M_isImmediate_265 (by decide) (fun c_265 => ?_) (fun c_265 => ?_)
                            · skip
                              refine lv_iconst (v := 0) hx hb d_M_isImmediate_288 (by decide) ?_
                              exact W.zret (v := 0) hx hb hr rfl (fun t ht hW => ⟨_, rfl, by rw [mF_StepMachineModel_isImmediate, if_pos c_2, if_neg c_17, if_pos c_38, if_pos c_59, if_pos c_75, if_neg c_91_0, if_neg c_91_1, if_neg c_91_2, if_neg c_91_3, if_neg c_91_4, if_neg c_91_5, if_neg c_91_6, if_pos c_91_7, if_pos c_265], ht⟩) (fun q h => by cases h) d_M_isImmediate_289
                            · skip
                              refine lv_lload_n hx hb d_M_isImmediate_268 rfl (lv_at hl 1 rfl) ?_
                              refine lv_ldc2 (v := (-512)) hx hb hown (hts _ a_817) d_M_isImmediate_269 ?_
                              refine lv_ldc2 (v := 496) hx hb hown (hts _ a_818) d_M_isImmediate_272 ?_
                              refine lv_ldc2 (v := 16) hx hb hown (hts _ a_819) d_M_isImmediate_275 ?_
                              refine roSi (As := [.long x1, .long (-512), .long 496, .long 16]) (rest := []) ⟨hx, hb, hml, hown, hts⟩ (mc_StepMachineModel_isStep l D tc tb z0 x1 (-512) 496 16 (by decide)) (va_cwS 4 hts (goodS a_802 a_803 a_10 a_804) rfl rfl rfl hs_M_isStep ⟨Nat.le_of_ble_eq_true rfl, Nat.le_of_ble_eq_true rfl⟩) (hP.sub [] rfl) hK hB rfl hl.1 rfl (Nat.le_of_ble_eq_true rfl) d_M_isImmediate_278 ⟨Nat.zero_le _, Nat.zero_le _⟩ ?_
                              refine lv_if_eq (tgt := 288) hx hb d_M_isImmediate_281 (by decide) (fun c_281 => ?_) (fun c_281 => ?_)
                              · skip
                                refine lv_iconst (v := 0) hx hb d_M_isImmediate_288 (by decide) ?_
                                exact W.zret (v := 0) hx hb hr rfl (fun t ht hW => ⟨_, rfl, by rw [mF_StepMachineModel_isImmediate, if_pos c_2, if_neg c_17, if_pos c_38, if_pos c_59, if_pos c_75, if_neg c_91_0, if_neg c_91_1, if_neg c_91_2, if_neg c_91_3, if_neg c_91_4, if_neg c_91_5, if_neg c_91_6, if_pos c_91_7, if_neg c_265, if_pos c_281], ht⟩) (fun q h => by cases h) d_M_isImmediate_289
                              · skip
                                refine lv_iconst (v := 1) hx hb d_M_isImmediate_284 (by decide) ?_
                                refine lv_goto (tgt := 289) hx hb d_M_isImmediate_285 (by decide) ?_
                                exact W.zret (v := 1) hx hb hr rfl (fun t ht hW => ⟨_, rfl, by rw [mF_StepMachineModel_isImmediate, if_pos c_2, if_neg c_17, if_pos c_38, if_pos c_59, if_pos c_75, if_neg c_91_0, if_neg c_91_1, if_neg c_91_2, if_neg c_91_3, if_neg c_91_4, if_neg c_91_5, if_neg c_91_6, if_pos c_91_7, if_neg c_265, if_neg c_281], ht⟩) (fun q h => by cases h) d_M_isImmediate_289
                          · skip
                            by_cases c_91_8 : x0 = 56
                            · skip
                              refine lv_tableIn (tgt := 290) hx hb d_M_isImmediate_91 (by rw [c_91_8]; decide) (by rw [c_91_8]; decide) (by rw [c_91_8] <;> rfl) (by decide) ?_
                              refine lv_lload_n hx hb d_M_isImmediate_290 rfl (lv_at hl 1 rfl) ?_
                              refine lv_lconst (v := 1) hx hb d_M_isImmediate_291 (by decide) ?_
                              refine lv_ldc2 (v := 31) hx hb hown (hts _ a_809) d_M_isImmediate_292 ?_
                              refine lv_lconst (v := 1) hx hb d_M_isImmediate_295 (by decide) ?_
                              refine roSi (As := [.long x1, .long 1, .long 31, .long 1]) (rest := []) ⟨hx, hb, hml, hown, hts⟩ (mc_StepMachineModel_isStep l D tc tb z0 x1 1 31 1 (by decide)) (va_cwS 4 hts (goodS a_802 a_803 a_10 a_804) rfl rfl rfl hs_M_isStep ⟨Nat.le_of_ble_eq_true rfl, Nat.le_of_ble_eq_true rfl⟩) (hP.sub [] rfl) hK hB rfl hl.1 rfl (Nat.le_of_ble_eq_true rfl) d_M_isImmediate_296 ⟨Nat.zero_le _, Nat.zero_le _⟩ ?_
                              refine lv_if_ne (tgt := 316) hx hb d_M_isImmediate_299 (by decide) (fun c_299 => ?_) (fun c_299 => ?_)
                              · skip
                                refine lv_iconst (v := 1) hx hb d_M_isImmediate_316 (by decide) ?_
                                refine lv_goto (tgt := 321) hx hb d_M_isImmediate_317 (by decide) ?_
                                exact W.zret (v := 1) hx hb hr rfl (fun t ht hW => ⟨_, rfl, by rw [mF_StepMachineModel_isImmediate, if_pos c_2, if_neg c_17, if_pos c_38, if_pos c_59, if_pos c_75, if_neg c_91_0, if_neg c_91_1, if_neg c_91_2, if_neg c_91_3, if_neg c_91_4, if_neg c_91_5, if_neg c_91_6, if_neg c_91_7, if_pos c_91_8, if_neg c_299], ht⟩) (fun q h => by cases h) d_M_isImmediate_321
                              · skip
                                refine lv_lload_n hx hb d_M_isImmediate_302 rfl (lv_at hl 1 rfl) ?_
                                refine lv_ldc2 (v := 1048544) hx hb hown (hts _ a_820) d_M_isImmediate_303 ?_
                                refine lv_ldc2 (v := 1048575) hx hb hown (hts _ a_801) d_M_isImmediate_306 ?_
                                refine lv_lconst (v := 1) hx hb d_M_isImmediate_309 (by decide) ?_
                                refine roSi (As := [.long x1, .long 1048544, .long 1048575, .long 1]) (rest := []) ⟨hx, hb, hml, hown, hts⟩ (mc_StepMachineModel_isStep l D tc tb z0 x1 1048544 1048575 1 (by decide)) (va_cwS 4 hts (goodS a_802 a_803 a_10 a_804) rfl rfl rfl hs_M_isStep ⟨Nat.le_of_ble_eq_true rfl, Nat.le_of_ble_eq_true rfl⟩) (hP.sub [] rfl) hK hB rfl hl.1 rfl (Nat.le_of_ble_eq_true rfl) d_M_isImmediate_310 ⟨Nat.zero_le _, Nat.zero_le _⟩ ?_
                                refine lv_if_eq (tgt := 320) hx hb d_M_isImmediate_313 (by decide) (fun c_313 => ?_) (fun c_313 => ?_)
                                · skip
                                  refine lv_iconst (v := 0) hx hb d_M_isImmediate_320 (by decide) ?_
                                  exact W.zret (v := 0) hx hb hr rfl (fun t ht hW => ⟨_, rfl, by rw [mF_StepMachineModel_isImmediate, if_pos c_2, if_neg c_17, if_pos c_38, if_pos c_59, if_pos c_75, if_neg c_91_0, if_neg c_91_1, if_neg c_91_2, if_neg c_91_3, if_neg c_91_4, if_neg c_91_5, if_neg c_91_6, if_neg c_91_7, if_pos c_91_8, if_pos c_299, if_pos c_313], ht⟩) (fun q h => by cases h) d_M_isImmediate_321
                                · skip
                                  refine lv_iconst (v := 1) hx hb d_M_isImmediate_316 (by decide) ?_
                                  refine lv_goto (tgt := 321) hx hb d_M_isImmediate_317 (by decide) ?_
                                  exact W.zret (v := 1) hx hb hr rfl (fun t ht hW => ⟨_, rfl, by rw [mF_StepMachineModel_isImmediate, if_pos c_2, if_neg c_17, if_pos c_38, if_pos c_59, if_pos c_75, if_neg c_91_0, if_neg c_91_1, if_neg c_91_2, if_neg c_91_3, if_neg c_91_4, if_neg c_91_5, if_neg c_91_6, if_neg c_91_7, if_pos c_91_8, if_pos c_299, if_neg c_313], ht⟩) (fun q h => by cases h) d_M_isImmediate_321
                            · skip
                              by_cases c_91_9 : x0 = 57
                              · skip
                                refine lv_tableIn (tgt := 322) hx hb d_M_isImmediate_91 (by rw [c_91_9]; decide) (by rw [c_91_9]; decide) (by rw [c_91_9] <;> rfl) (by decide) ?_
                                refine lv_lload_n hx hb d_M_isImmediate_322 rfl (lv_at hl 1 rfl) ?_
                                refine lv_lconst (v := 1) hx hb d_M_isImmediate_323 (by decide) ?_
                                refine lv_ldc2 (v := 31) hx hb hown (hts _ a_809) d_M_isImmediate_324 ?_
                                refine lv_lconst (v := 1) hx hb d_M_isImmediate_327 (by decide) ?_
                                refine roSi (As := [.long x1, .long 1, .long 31, .long 1]) (rest := []) ⟨hx, hb, hml, hown, hts⟩ (mc_StepMachineModel_isStep l D tc tb z0 x1 1 31 1 (by decide)) (va_cwS 4 hts (goodS a_802 a_803 a_10 a_804) rfl rfl rfl hs_M_isStep ⟨Nat.le_of_ble_eq_true rfl, Nat.le_of_ble_eq_true rfl⟩) (hP.sub [] rfl) hK hB rfl hl.1 rfl (Nat.le_of_ble_eq_true rfl) d_M_isImmediate_328 ⟨Nat.zero_le _, Nat.zero_le _⟩ ?_
                                exact W.zret (v := (mF_StepMachineModel_isStep x1 1 31 1)) hx hb hr (zb_of (bo_mF_StepMachineModel_isStep _ _ _ _)) (fun t ht hW => ⟨_, rfl, by rw [mF_StepMachineModel_isImmediate, if_pos c_2, if_neg c_17, if_pos c_38, if_pos c_59, if_pos c_75, if_neg c_91_0, if_neg c_91_1, if_neg c_91_2, if_neg c_91_3, if_neg c_91_4, if_neg c_91_5, if_neg c_91_6, if_neg c_91_7, if_neg c_91_8, if_pos c_91_9], ht⟩) (fun q h => by cases h) d_M_isImmediate_331
                              · skip
                                by_cases c_91_10 : x0 = 58
                                · skip
                                  refine lv_tableIn (tgt := 322) hx hb d_M_isImmediate_91 (by rw [c_91_10]; decide) (by rw [c_91_10]; decide) (by rw [c_91_10] <;> rfl) (by decide) ?_
                                  refine lv_lload_n hx hb d_M_isImmediate_322 rfl (lv_at hl 1 rfl) ?_
                                  refine lv_lconst (v := 1) hx hb d_M_isImmediate_323 (by decide) ?_
                                  refine lv_ldc2 (v := 31) hx hb hown (hts _ a_809) d_M_isImmediate_324 ?_
                                  refine lv_lconst (v := 1) hx hb d_M_isImmediate_327 (by decide) ?_
                                  refine roSi (As := [.long x1, .long 1, .long 31, .long 1]) (rest := []) ⟨hx, hb, hml, hown, hts⟩ (mc_StepMachineModel_isStep l D tc tb z0 x1 1 31 1 (by decide)) (va_cwS 4 hts (goodS a_802 a_803 a_10 a_804) rfl rfl rfl hs_M_isStep ⟨Nat.le_of_ble_eq_true rfl, Nat.le_of_ble_eq_true rfl⟩) (hP.sub [] rfl) hK hB rfl hl.1 rfl (Nat.le_of_ble_eq_true rfl) d_M_isImmediate_328 ⟨Nat.zero_le _, Nat.zero_le _⟩ ?_
                                  exact W.zret (v := (mF_StepMachineModel_isStep x1 1 31 1)) hx hb hr (zb_of (bo_mF_StepMachineModel_isStep _ _ _ _)) (fun t ht hW => ⟨_, rfl, by rw [mF_StepMachineModel_isImmediate, if_pos c_2, if_neg c_17, if_pos c_38, if_pos c_59, if_pos c_75, if_neg c_91_0, if_neg c_91_1, if_neg c_91_2, if_neg c_91_3, if_neg c_91_4, if_neg c_91_5, if_neg c_91_6, if_neg c_91_7, if_neg c_91_8, if_neg c_91_9, if_pos c_91_10], ht⟩) (fun q h => by cases h) d_M_isImmediate_331
                                · skip
                                  by_cases c_91_11 : x0 = 59
                                  · skip
                                    refine lv_tableIn (tgt := 250) hx hb d_M_isImmediate_91 (by rw [c_91_11]; decide) (by rw [c_91_11]; decide) (by rw [c_91_11] <;> rfl) (by decide) ?_
                                    refine lv_lload_n hx hb d_M_isImmediate_250 rfl (lv_at hl 1 rfl) ?_
                                    refine lv_ldc2 (v := (-32)) hx hb hown (hts _ a_815) d_M_isImmediate_251 ?_
                                    refine lv_ldc2 (v := 31) hx hb hown (hts _ a_809) d_M_isImmediate_254 ?_
                                    refine lv_lconst (v := 1) hx hb d_M_isImmediate_257 (by decide) ?_
                                    refine roSi (As := [.long x1, .long (-32), .long 31, .long 1]) (rest := []) ⟨hx, hb, hml, hown, hts⟩ (mc_StepMachineModel_isStep l D tc tb z0 x1 (-32) 31 1 (by decide)) (va_cwS 4 hts (goodS a_802 a_803 a_10 a_804) rfl rfl rfl hs_M_isStep ⟨Nat.le_of_ble_eq_true rfl, Nat.le_of_ble_eq_true rfl⟩) (hP.sub [] rfl) hK hB rfl hl.1 rfl (Nat.le_of_ble_eq_true rfl) d_M_isImmediate_258 ⟨Nat.zero_le _, Nat.zero_le _⟩ ?_
                                    exact W.zret (v := (mF_StepMachineModel_isStep x1 (-32) 31 1)) hx hb hr (zb_of (bo_mF_StepMachineModel_isStep _ _ _ _)) (fun t ht hW => ⟨_, rfl, by rw [mF_StepMachineModel_isImmediate, if_pos c_2, if_neg c_17, if_pos c_38, if_pos c_59, if_pos c_75, if_neg c_91_0, if_neg c_91_1, if_neg c_91_2, if_neg c_91_3, if_neg c_91_4, if_neg c_91_5, if_neg c_91_6, if_neg c_91_7, if_neg c_91_8, if_neg c_91_9, if_neg c_91_10, if_pos c_91_11], ht⟩) (fun q h => by cases h) d_M_isImmediate_261
                                  · skip
                                    by_cases c_91_12 : x0 = 60
                                    · skip
                                      refine lv_tableIn (tgt := 346) hx hb d_M_isImmediate_91 (by rw [c_91_12]; decide) (by rw [c_91_12]; decide) (by rw [c_91_12] <;> rfl) (by decide) ?_
                                      refine lv_lload_n hx hb d_M_isImmediate_346 rfl (lv_at hl 1 rfl) ?_
                                      refine lv_lconst (v := 0) hx hb d_M_isImmediate_347 (by decide) ?_
                                      refine lv_ldc2 (v := 252) hx hb hown (hts _ a_823) d_M_isImmediate_348 ?_
                                      refine lv_ldc2 (v := 4) hx hb hown (hts _ a_812) d_M_isImmediate_351 ?_
                                      refine roSi (As := [.long x1, .long 0, .long 252, .long 4]) (rest := []) ⟨hx, hb, hml, hown, hts⟩ (mc_StepMachineModel_isStep l D tc tb z0 x1 0 252 4 (by decide)) (va_cwS 4 hts (goodS a_802 a_803 a_10 a_804) rfl rfl rfl hs_M_isStep ⟨Nat.le_of_ble_eq_true rfl, Nat.le_of_ble_eq_true rfl⟩) (hP.sub [] rfl) hK hB rfl hl.1 rfl (Nat.le_of_ble_eq_true rfl) d_M_isImmediate_354 ⟨Nat.zero_le _, Nat.zero_le _⟩ ?_
                                      exact W.zret (v := (mF_StepMachineModel_isStep x1 0 252 4)) hx hb hr (zb_of (bo_mF_StepMachineModel_isStep _ _ _ _)) (fun t ht hW => ⟨_, rfl, by rw [mF_StepMachineModel_isImmediate, if_pos c_2, if_neg c_17, if_pos c_38, if_pos c_59, if_pos c_75, if_neg c_91_0, if_neg c_91_1, if_neg c_91_2, if_neg c_91_3, if_neg c_91_4, if_neg c_91_5, if_neg c_91_6, if_neg c_91_7, if_neg c_91_8, if_neg c_91_9, if_neg c_91_10, if_neg c_91_11, if_pos c_91_12], ht⟩) (fun q h => by cases h) d_M_isImmediate_357
                                    · skip
                                      by_cases c_91_13 : x0 = 61
                                      · skip
                                        refine lv_tableIn (tgt := 346) hx hb d_M_isImmediate_91 (by rw [c_91_13]; decide) (by rw [c_91_13]; decide) (by rw [c_91_13] <;> rfl) (by decide) ?_
                                        refine lv_lload_n hx hb d_M_isImmediate_346 rfl (lv_at hl 1 rfl) ?_
                                        refine lv_lconst (v := 0) hx hb d_M_isImmediate_347 (by decide) ?_
                                        refine lv_ldc2 (v := 252) hx hb hown (hts _ a_823) d_M_isImmediate_348 ?_
                                        refine lv_ldc2 (v := 4) hx hb hown (hts _ a_812) d_M_isImmediate_351 ?_
                                        refine roSi (As := [.long x1, .long 0, .long 252, .long 4]) (rest := []) ⟨hx, hb, hml, hown, hts⟩ (mc_StepMachineModel_isStep l D tc tb z0 x1 0 252 4 (by decide)) (va_cwS 4 hts (goodS a_802 a_803 a_10 a_804) rfl rfl rfl hs_M_isStep ⟨Nat.le_of_ble_eq_true rfl, Nat.le_of_ble_eq_true rfl⟩) (hP.sub [] rfl) hK hB rfl hl.1 rfl (Nat.le_of_ble_eq_true rfl) d_M_isImmediate_354 ⟨Nat.zero_le _, Nat.zero_le _⟩ ?_
                                        exact W.zret (v := (mF_StepMachineModel_isStep x1 0 252 4)) hx hb hr (zb_of (bo_mF_StepMachineModel_isStep _ _ _ _)) (fun t ht hW => ⟨_, rfl, by rw [mF_StepMachineModel_isImmediate, if_pos c_2, if_neg c_17, if_pos c_38, if_pos c_59, if_pos c_75, if_neg c_91_0, if_neg c_91_1, if_neg c_91_2, if_neg c_91_3, if_neg c_91_4, if_neg c_91_5, if_neg c_91_6, if_neg c_91_7, if_neg c_91_8, if_neg c_91_9, if_neg c_91_10, if_neg c_91_11, if_neg c_91_12, if_pos c_91_13], ht⟩) (fun q h => by cases h) d_M_isImmediate_357
                                      · skip
                                        by_cases c_91_14 : x0 = 62
                                        · skip
                                          refine lv_tableIn (tgt := 346) hx hb d_M_isImmediate_91 (by rw [c_91_14]; decide) (by rw [c_91_14]; decide) (by rw [c_91_14] <;> rfl) (by decide) ?_
                                          refine lv_lload_n hx hb d_M_isImmediate_346 rfl (lv_at hl 1 rfl) ?_
                                          refine lv_lconst (v := 0) hx hb d_M_isImmediate_347 (by decide) ?_
                                          refine lv_ldc2 (v := 252) hx hb hown (hts _ a_823) d_M_isImmediate_348 ?_
                                          refine lv_ldc2 (v := 4) hx hb hown (hts _ a_812) d_M_isImmediate_351 ?_
                                          refine roSi (As := [.long x1, .long 0, .long 252, .long 4]) (rest := []) ⟨hx, hb, hml, hown, hts⟩ (mc_StepMachineModel_isStep l D tc tb z0 x1 0 252 4 (by decide)) (va_cwS 4 hts (goodS a_802 a_803 a_10 a_804) rfl rfl rfl hs_M_isStep ⟨Nat.le_of_ble_eq_true rfl, Nat.le_of_ble_eq_true rfl⟩) (hP.sub [] rfl) hK hB rfl hl.1 rfl (Nat.le_of_ble_eq_true rfl) d_M_isImmediate_354 ⟨Nat.zero_le _, Nat.zero_le _⟩ ?_
                                          exact W.zret (v := (mF_StepMachineModel_isStep x1 0 252 4)) hx hb hr (zb_of (bo_mF_StepMachineModel_isStep _ _ _ _)) (fun t ht hW => ⟨_, rfl, by rw [mF_StepMachineModel_isImmediate, if_pos c_2, if_neg c_17, if_pos c_38, if_pos c_59, if_pos c_75, if_neg c_91_0, if_neg c_91_1, if_neg c_91_2, if_neg c_91_3, if_neg c_91_4, if_neg c_91_5, if_neg c_91_6, if_neg c_91_7, if_neg c_91_8, if_neg c_91_9, if_neg c_91_10, if_neg c_91_11, if_neg c_91_12, if_neg c_91_13, if_pos c_91_14], ht⟩) (fun q h => by cases h) d_M_isImmediate_357
                                        · skip
                                          by_cases c_91_15 : x0 = 63
                                          · skip
                                            refine lv_tableIn (tgt := 346) hx hb d_M_isImmediate_91 (by rw [c_91_15]; decide) (by rw [c_91_15]; decide) (by rw [c_91_15] <;> rfl) (by decide) ?_
                                            refine lv_lload_n hx hb d_M_isImmediate_346 rfl (lv_at hl 1 rfl) ?_
                                            refine lv_lconst (v := 0) hx hb d_M_isImmediate_347 (by decide) ?_
                                            refine lv_ldc2 (v := 252) hx hb hown (hts _ a_823) d_M_isImmediate_348 ?_
                                            refine lv_ldc2 (v := 4) hx hb hown (hts _ a_812) d_M_isImmediate_351 ?_
                                            refine roSi (As := [.long x1, .long 0, .long 252, .long 4]) (rest := []) ⟨hx, hb, hml, hown, hts⟩ (mc_StepMachineModel_isStep l D tc tb z0 x1 0 252 4 (by decide)) (va_cwS 4 hts (goodS a_802 a_803 a_10 a_804) rfl rfl rfl hs_M_isStep ⟨Nat.le_of_ble_eq_true rfl, Nat.le_of_ble_eq_true rfl⟩) (hP.sub [] rfl) hK hB rfl hl.1 rfl (Nat.le_of_ble_eq_true rfl) d_M_isImmediate_354 ⟨Nat.zero_le _, Nat.zero_le _⟩ ?_
                                            exact W.zret (v := (mF_StepMachineModel_isStep x1 0 252 4)) hx hb hr (zb_of (bo_mF_StepMachineModel_isStep _ _ _ _)) (fun t ht hW => ⟨_, rfl, by rw [mF_StepMachineModel_isImmediate, if_pos c_2, if_neg c_17, if_pos c_38, if_pos c_59, if_pos c_75, if_neg c_91_0, if_neg c_91_1, if_neg c_91_2, if_neg c_91_3, if_neg c_91_4, if_neg c_91_5, if_neg c_91_6, if_neg c_91_7, if_neg c_91_8, if_neg c_91_9, if_neg c_91_10, if_neg c_91_11, if_neg c_91_12, if_neg c_91_13, if_neg c_91_14, if_pos c_91_15], ht⟩) (fun q h => by cases h) d_M_isImmediate_357
                                          · skip
                                            by_cases c_91_16 : x0 = 64
                                            · skip
                                              refine lv_tableIn (tgt := 236) hx hb d_M_isImmediate_91 (by rw [c_91_16]; decide) (by rw [c_91_16]; decide) (by rw [c_91_16] <;> rfl) (by decide) ?_
                                              refine lv_lload_n hx hb d_M_isImmediate_236 rfl (lv_at hl 1 rfl) ?_
                                              refine lv_ldc2 (v := (-2048)) hx hb hown (hts _ a_810) d_M_isImmediate_237 ?_
                                              refine lv_ldc2 (v := 2046) hx hb hown (hts _ a_816) d_M_isImmediate_240 ?_
                                              refine lv_ldc2 (v := 2) hx hb hown (hts _ a_753) d_M_isImmediate_243 ?_
                                              refine roSi (As := [.long x1, .long (-2048), .long 2046, .long 2]) (rest := []) ⟨hx, hb, hml, hown, hts⟩ (mc_StepMachineModel_isStep l D tc tb z0 x1 (-2048) 2046 2 (by decide)) (va_cwS 4 hts (goodS a_802 a_803 a_10 a_804) rfl rfl rfl hs_M_isStep ⟨Nat.le_of_ble_eq_true rfl, Nat.le_of_ble_eq_true rfl⟩) (hP.sub [] rfl) hK hB rfl hl.1 rfl (Nat.le_of_ble_eq_true rfl) d_M_isImmediate_246 ⟨Nat.zero_le _, Nat.zero_le _⟩ ?_
                                              exact W.zret (v := (mF_StepMachineModel_isStep x1 (-2048) 2046 2)) hx hb hr (zb_of (bo_mF_StepMachineModel_isStep _ _ _ _)) (fun t ht hW => ⟨_, rfl, by rw [mF_StepMachineModel_isImmediate, if_pos c_2, if_neg c_17, if_pos c_38, if_pos c_59, if_pos c_75, if_neg c_91_0, if_neg c_91_1, if_neg c_91_2, if_neg c_91_3, if_neg c_91_4, if_neg c_91_5, if_neg c_91_6, if_neg c_91_7, if_neg c_91_8, if_neg c_91_9, if_neg c_91_10, if_neg c_91_11, if_neg c_91_12, if_neg c_91_13, if_neg c_91_14, if_neg c_91_15, if_pos c_91_16], ht⟩) (fun q h => by cases h) d_M_isImmediate_249
                                            · skip
                                              by_cases c_91_17 : x0 = 65
                                              · skip
                                                refine lv_tableIn (tgt := 332) hx hb d_M_isImmediate_91 (by rw [c_91_17]; decide) (by rw [c_91_17]; decide) (by rw [c_91_17] <;> rfl) (by decide) ?_
                                                refine lv_lload_n hx hb d_M_isImmediate_332 rfl (lv_at hl 1 rfl) ?_
                                                refine lv_ldc2 (v := (-256)) hx hb hown (hts _ a_821) d_M_isImmediate_333 ?_
                                                refine lv_ldc2 (v := 254) hx hb hown (hts _ a_822) d_M_isImmediate_336 ?_
                                                refine lv_ldc2 (v := 2) hx hb hown (hts _ a_753) d_M_isImmediate_339 ?_
                                                refine roSi (As := [.long x1, .long (-256), .long 254, .long 2]) (rest := []) ⟨hx, hb, hml, hown, hts⟩ (mc_StepMachineModel_isStep l D tc tb z0 x1 (-256) 254 2 (by decide)) (va_cwS 4 hts (goodS a_802 a_803 a_10 a_804) rfl rfl rfl hs_M_isStep ⟨Nat.le_of_ble_eq_true rfl, Nat.le_of_ble_eq_true rfl⟩) (hP.sub [] rfl) hK hB rfl hl.1 rfl (Nat.le_of_ble_eq_true rfl) d_M_isImmediate_342 ⟨Nat.zero_le _, Nat.zero_le _⟩ ?_
                                                exact W.zret (v := (mF_StepMachineModel_isStep x1 (-256) 254 2)) hx hb hr (zb_of (bo_mF_StepMachineModel_isStep _ _ _ _)) (fun t ht hW => ⟨_, rfl, by rw [mF_StepMachineModel_isImmediate, if_pos c_2, if_neg c_17, if_pos c_38, if_pos c_59, if_pos c_75, if_neg c_91_0, if_neg c_91_1, if_neg c_91_2, if_neg c_91_3, if_neg c_91_4, if_neg c_91_5, if_neg c_91_6, if_neg c_91_7, if_neg c_91_8, if_neg c_91_9, if_neg c_91_10, if_neg c_91_11, if_neg c_91_12, if_neg c_91_13, if_neg c_91_14, if_neg c_91_15, if_neg c_91_16, if_pos c_91_17], ht⟩) (fun q h => by cases h) d_M_isImmediate_345
                                              · skip
                                                by_cases c_91_18 : x0 = 66
                                                · skip
                                                  refine lv_tableIn (tgt := 332) hx hb d_M_isImmediate_91 (by rw [c_91_18]; decide) (by rw [c_91_18]; decide) (by rw [c_91_18] <;> rfl) (by decide) ?_
                                                  refine lv_lload_n hx hb d_M_isImmediate_332 rfl (lv_at hl 1 rfl) ?_
                                                  refine lv_ldc2 (v := (-256)) hx hb hown (hts _ a_821) d_M_isImmediate_333 ?_
                                                  refine lv_ldc2 (v := 254) hx hb hown (hts _ a_822) d_M_isImmediate_336 ?_
                                                  refine lv_ldc2 (v := 2) hx hb hown (hts _ a_753) d_M_isImmediate_339 ?_
                                                  refine roSi (As := [.long x1, .long (-256), .long 254, .long 2]) (rest := []) ⟨hx, hb, hml, hown, hts⟩ (mc_StepMachineModel_isStep l D tc tb z0 x1 (-256) 254 2 (by decide)) (va_cwS 4 hts (goodS a_802 a_803 a_10 a_804) rfl rfl rfl hs_M_isStep ⟨Nat.le_of_ble_eq_true rfl, Nat.le_of_ble_eq_true rfl⟩) (hP.sub [] rfl) hK hB rfl hl.1 rfl (Nat.le_of_ble_eq_true rfl) d_M_isImmediate_342 ⟨Nat.zero_le _, Nat.zero_le _⟩ ?_
                                                  exact W.zret (v := (mF_StepMachineModel_isStep x1 (-256) 254 2)) hx hb hr (zb_of (bo_mF_StepMachineModel_isStep _ _ _ _)) (fun t ht hW => ⟨_, rfl, by rw [mF_StepMachineModel_isImmediate, if_pos c_2, if_neg c_17, if_pos c_38, if_pos c_59, if_pos c_75, if_neg c_91_0, if_neg c_91_1, if_neg c_91_2, if_neg c_91_3, if_neg c_91_4, if_neg c_91_5, if_neg c_91_6, if_neg c_91_7, if_neg c_91_8, if_neg c_91_9, if_neg c_91_10, if_neg c_91_11, if_neg c_91_12, if_neg c_91_13, if_neg c_91_14, if_neg c_91_15, if_neg c_91_16, if_neg c_91_17, if_pos c_91_18], ht⟩) (fun q h => by cases h) d_M_isImmediate_345
                                                · skip
                                                  by_cases c_91_19 : x0 = 67
                                                  · skip
                                                    refine lv_tableIn (tgt := 322) hx hb d_M_isImmediate_91 (by rw [c_91_19]; decide) (by rw [c_91_19]; decide) (by rw [c_91_19] <;> rfl) (by decide) ?_
                                                    refine lv_lload_n hx hb d_M_isImmediate_322 rfl (lv_at hl 1 rfl) ?_
                                                    refine lv_lconst (v := 1) hx hb d_M_isImmediate_323 (by decide) ?_
                                                    refine lv_ldc2 (v := 31) hx hb hown (hts _ a_809) d_M_isImmediate_324 ?_
                                                    refine lv_lconst (v := 1) hx hb d_M_isImmediate_327 (by decide) ?_
                                                    refine roSi (As := [.long x1, .long 1, .long 31, .long 1]) (rest := []) ⟨hx, hb, hml, hown, hts⟩ (mc_StepMachineModel_isStep l D tc tb z0 x1 1 31 1 (by decide)) (va_cwS 4 hts (goodS a_802 a_803 a_10 a_804) rfl rfl rfl hs_M_isStep ⟨Nat.le_of_ble_eq_true rfl, Nat.le_of_ble_eq_true rfl⟩) (hP.sub [] rfl) hK hB rfl hl.1 rfl (Nat.le_of_ble_eq_true rfl) d_M_isImmediate_328 ⟨Nat.zero_le _, Nat.zero_le _⟩ ?_
                                                    exact W.zret (v := (mF_StepMachineModel_isStep x1 1 31 1)) hx hb hr (zb_of (bo_mF_StepMachineModel_isStep _ _ _ _)) (fun t ht hW => ⟨_, rfl, by rw [mF_StepMachineModel_isImmediate, if_pos c_2, if_neg c_17, if_pos c_38, if_pos c_59, if_pos c_75, if_neg c_91_0, if_neg c_91_1, if_neg c_91_2, if_neg c_91_3, if_neg c_91_4, if_neg c_91_5, if_neg c_91_6, if_neg c_91_7, if_neg c_91_8, if_neg c_91_9, if_neg c_91_10, if_neg c_91_11, if_neg c_91_12, if_neg c_91_13, if_neg c_91_14, if_neg c_91_15, if_neg c_91_16, if_neg c_91_17, if_neg c_91_18, if_pos c_91_19], ht⟩) (fun q h => by cases h) d_M_isImmediate_331
                                                  · skip
                                                    refine lv_tableOut (tgt := 346) hx hb d_M_isImmediate_91 (by have n_0 := lv_neT (a := 48) c_91_0 (by decide); have n_1 := lv_neT (a := 49) c_91_1 (by decide); have n_2 := lv_neT (a := 50) c_91_2 (by decide); have n_3 := lv_neT (a := 51) c_91_3 (by decide); have n_4 := lv_neT (a := 52) c_91_4 (by decide); have n_5 := lv_neT (a := 53) c_91_5 (by decide); have n_6 := lv_neT (a := 54) c_91_6 (by decide); have n_7 := lv_neT (a := 55) c_91_7 (by decide); have n_8 := lv_neT (a := 56) c_91_8 (by decide); have n_9 := lv_neT (a := 57) c_91_9 (by decide); have n_10 := lv_neT (a := 58) c_91_10 (by decide); have n_11 := lv_neT (a := 59) c_91_11 (by decide); have n_12 := lv_neT (a := 60) c_91_12 (by decide); have n_13 := lv_neT (a := 61) c_91_13 (by decide); have n_14 := lv_neT (a := 62) c_91_14 (by decide); have n_15 := lv_neT (a := 63) c_91_15 (by decide); have n_16 := lv_neT (a := 64) c_91_16 (by decide); have n_17 := lv_neT (a := 65) c_91_17 (by decide); have n_18 := lv_neT (a := 66) c_91_18 (by decide); have n_19 := lv_neT (a := 67) c_91_19 (by decide); omega) (by decide) ?_
                                                    refine lv_lload_n hx hb d_M_isImmediate_346 rfl (lv_at hl 1 rfl) ?_
                                                    refine lv_lconst (v := 0) hx hb d_M_isImmediate_347 (by decide) ?_
                                                    refine lv_ldc2 (v := 252) hx hb hown (hts _ a_823) d_M_isImmediate_348 ?_
                                                    refine lv_ldc2 (v := 4) hx hb hown (hts _ a_812) d_M_isImmediate_351 ?_
                                                    refine roSi (As := [.long x1, .long 0, .long 252, .long 4]) (rest := []) ⟨hx, hb, hml, hown, hts⟩ (mc_StepMachineModel_isStep l D tc tb z0 x1 0 252 4 (by decide)) (va_cwS 4 hts (goodS a_802 a_803 a_10 a_804) rfl rfl rfl hs_M_isStep ⟨Nat.le_of_ble_eq_true rfl, Nat.le_of_ble_eq_true rfl⟩) (hP.sub [] rfl) hK hB rfl hl.1 rfl (Nat.le_of_ble_eq_true rfl) d_M_isImmediate_354 ⟨Nat.zero_le _, Nat.zero_le _⟩ ?_
                                                    exact W.zret (v := (mF_StepMachineModel_isStep x1 0 252 4)) hx hb hr (zb_of (bo_mF_StepMachineModel_isStep _ _ _ _)) (fun t ht hW => ⟨_, rfl, by rw [mF_StepMachineModel_isImmediate, if_pos c_2, if_neg c_17, if_pos c_38, if_pos c_59, if_pos c_75, if_neg c_91_0, if_neg c_91_1, if_neg c_91_2, if_neg c_91_3, if_neg c_91_4, if_neg c_91_5, if_neg c_91_6, if_neg c_91_7, if_neg c_91_8, if_neg c_91_9, if_neg c_91_10, if_neg c_91_11, if_neg c_91_12, if_neg c_91_13, if_neg c_91_14, if_neg c_91_15, if_neg c_91_16, if_neg c_91_17, if_neg c_91_18, if_neg c_91_19], ht⟩) (fun q h => by cases h) d_M_isImmediate_357
          · skip
            refine lv_lload_n hx hb d_M_isImmediate_78 rfl (lv_at hl 1 rfl) ?_
            refine lv_ldc2 (v := (-2048)) hx hb hown (hts _ a_810) d_M_isImmediate_79 ?_
            refine lv_ldc2 (v := 2047) hx hb hown (hts _ a_811) d_M_isImmediate_82 ?_
            refine lv_lconst (v := 1) hx hb d_M_isImmediate_85 (by decide) ?_
            refine roSi (As := [.long x1, .long (-2048), .long 2047, .long 1]) (rest := []) ⟨hx, hb, hml, hown, hts⟩ (mc_StepMachineModel_isStep l D tc tb z0 x1 (-2048) 2047 1 (by decide)) (va_cwS 4 hts (goodS a_802 a_803 a_10 a_804) rfl rfl rfl hs_M_isStep ⟨Nat.le_of_ble_eq_true rfl, Nat.le_of_ble_eq_true rfl⟩) (hP.sub [] rfl) hK hB rfl hl.1 rfl (Nat.le_of_ble_eq_true rfl) d_M_isImmediate_86 ⟨Nat.zero_le _, Nat.zero_le _⟩ ?_
            exact W.zret (v := (mF_StepMachineModel_isStep x1 (-2048) 2047 1)) hx hb hr (zb_of (bo_mF_StepMachineModel_isStep _ _ _ _)) (fun t ht hW => ⟨_, rfl, by rw [mF_StepMachineModel_isImmediate, if_pos c_2, if_neg c_17, if_pos c_38, if_pos c_59, if_neg c_75], ht⟩) (fun q h => by cases h) d_M_isImmediate_89
        · skip
          refine lv_lload_n hx hb d_M_isImmediate_62 rfl (lv_at hl 1 rfl) ?_
          refine lv_lconst (v := 0) hx hb d_M_isImmediate_63 (by decide) ?_
          refine lv_ldc2 (v := 31) hx hb hown (hts _ a_809) d_M_isImmediate_64 ?_
          refine lv_lconst (v := 1) hx hb d_M_isImmediate_67 (by decide) ?_
          refine roSi (As := [.long x1, .long 0, .long 31, .long 1]) (rest := []) ⟨hx, hb, hml, hown, hts⟩ (mc_StepMachineModel_isStep l D tc tb z0 x1 0 31 1 (by decide)) (va_cwS 4 hts (goodS a_802 a_803 a_10 a_804) rfl rfl rfl hs_M_isStep ⟨Nat.le_of_ble_eq_true rfl, Nat.le_of_ble_eq_true rfl⟩) (hP.sub [] rfl) hK hB rfl hl.1 rfl (Nat.le_of_ble_eq_true rfl) d_M_isImmediate_68 ⟨Nat.zero_le _, Nat.zero_le _⟩ ?_
          exact W.zret (v := (mF_StepMachineModel_isStep x1 0 31 1)) hx hb hr (zb_of (bo_mF_StepMachineModel_isStep _ _ _ _)) (fun t ht hW => ⟨_, rfl, by rw [mF_StepMachineModel_isImmediate, if_pos c_2, if_neg c_17, if_pos c_38, if_neg c_59], ht⟩) (fun q h => by cases h) d_M_isImmediate_71
      · skip
        refine lv_lload_n hx hb d_M_isImmediate_41 rfl (lv_at hl 1 rfl) ?_
        refine lv_ldc2 (v := (-4096)) hx hb hown (hts _ a_807) d_M_isImmediate_42 ?_
        refine lv_ldc2 (v := 4094) hx hb hown (hts _ a_808) d_M_isImmediate_45 ?_
        refine lv_ldc2 (v := 2) hx hb hown (hts _ a_753) d_M_isImmediate_48 ?_
        refine roSi (As := [.long x1, .long (-4096), .long 4094, .long 2]) (rest := []) ⟨hx, hb, hml, hown, hts⟩ (mc_StepMachineModel_isStep l D tc tb z0 x1 (-4096) 4094 2 (by decide)) (va_cwS 4 hts (goodS a_802 a_803 a_10 a_804) rfl rfl rfl hs_M_isStep ⟨Nat.le_of_ble_eq_true rfl, Nat.le_of_ble_eq_true rfl⟩) (hP.sub [] rfl) hK hB rfl hl.1 rfl (Nat.le_of_ble_eq_true rfl) d_M_isImmediate_51 ⟨Nat.zero_le _, Nat.zero_le _⟩ ?_
        exact W.zret (v := (mF_StepMachineModel_isStep x1 (-4096) 4094 2)) hx hb hr (zb_of (bo_mF_StepMachineModel_isStep _ _ _ _)) (fun t ht hW => ⟨_, rfl, by rw [mF_StepMachineModel_isImmediate, if_pos c_2, if_neg c_17, if_neg c_38], ht⟩) (fun q h => by cases h) d_M_isImmediate_54
    · skip
      refine lv_lload_n hx hb d_M_isImmediate_20 rfl (lv_at hl 1 rfl) ?_
      refine lv_ldc2 (v := (-1048576)) hx hb hown (hts _ a_805) d_M_isImmediate_21 ?_
      refine lv_ldc2 (v := 1048574) hx hb hown (hts _ a_806) d_M_isImmediate_24 ?_
      refine lv_ldc2 (v := 2) hx hb hown (hts _ a_753) d_M_isImmediate_27 ?_
      refine roSi (As := [.long x1, .long (-1048576), .long 1048574, .long 2]) (rest := []) ⟨hx, hb, hml, hown, hts⟩ (mc_StepMachineModel_isStep l D tc tb z0 x1 (-1048576) 1048574 2 (by decide)) (va_cwS 4 hts (goodS a_802 a_803 a_10 a_804) rfl rfl rfl hs_M_isStep ⟨Nat.le_of_ble_eq_true rfl, Nat.le_of_ble_eq_true rfl⟩) (hP.sub [] rfl) hK hB rfl hl.1 rfl (Nat.le_of_ble_eq_true rfl) d_M_isImmediate_30 ⟨Nat.zero_le _, Nat.zero_le _⟩ ?_
      exact W.zret (v := (mF_StepMachineModel_isStep x1 (-1048576) 1048574 2)) hx hb hr (zb_of (bo_mF_StepMachineModel_isStep _ _ _ _)) (fun t ht hW => ⟨_, rfl, by rw [mF_StepMachineModel_isImmediate, if_pos c_2, if_pos c_17], ht⟩) (fun q h => by cases h) d_M_isImmediate_33
  · skip
    refine lv_lload_n hx hb d_M_isImmediate_5 rfl (lv_at hl 1 rfl) ?_
    refine lv_lconst (v := 0) hx hb d_M_isImmediate_6 (by decide) ?_
    refine lv_ldc2 (v := 1048575) hx hb hown (hts _ a_801) d_M_isImmediate_7 ?_
    refine lv_lconst (v := 1) hx hb d_M_isImmediate_10 (by decide) ?_
    refine roSi (As := [.long x1, .long 0, .long 1048575, .long 1]) (rest := []) ⟨hx, hb, hml, hown, hts⟩ (mc_StepMachineModel_isStep l D tc tb z0 x1 0 1048575 1 (by decide)) (va_cwS 4 hts (goodS a_802 a_803 a_10 a_804) rfl rfl rfl hs_M_isStep ⟨Nat.le_of_ble_eq_true rfl, Nat.le_of_ble_eq_true rfl⟩) (hP.sub [] rfl) hK hB rfl hl.1 rfl (Nat.le_of_ble_eq_true rfl) d_M_isImmediate_11 ⟨Nat.zero_le _, Nat.zero_le _⟩ ?_
    exact W.zret (v := (mF_StepMachineModel_isStep x1 0 1048575 1)) hx hb hr (zb_of (bo_mF_StepMachineModel_isStep _ _ _ _)) (fun t ht hW => ⟨_, rfl, by rw [mF_StepMachineModel_isImmediate, if_neg c_2], ht⟩) (fun q h => by cases h) d_M_isImmediate_14
def mF_StepMachineModel_signOf (x0 : Int32) : Int32 := (if x0 < 2 then (-1) else (if (mF_StepMachineModel_isShift x0) = 0 then (if x0 = 2 then 20 else (if 48 ≤ x0 then (if x0 = 52 then 5 else (if x0 = 53 then 11 else (if x0 = 54 then 5 else (if x0 = 55 then 9 else (if x0 = 56 then 5 else (if x0 = 57 then (-1) else (if x0 = 58 then (-1) else (if x0 = 59 then 5 else (if x0 = 60 then (-1) else (if x0 = 61 then (-1) else (if x0 = 62 then (-1) else (if x0 = 63 then (-1) else (if x0 = 64 then 11 else (if x0 = 65 then 8 else (if x0 = 66 then 8 else (-1)))))))))))))))) else (if (mF_StepMachineModel_isBranch x0) = 0 then 11 else 12))) else (-1)))
set_option maxHeartbeats 4000000 in
set_option maxRecDepth 100000 in
theorem mc_StepMachineModel_signOf (l : Launch) (D : va_G) (tc : Nat → ClassId) (tb : Nat → Nat) (z0 : Nat) (x0 : Int32) : Met l y_M_signOf (wM y_M_signOf b_M_signOf 1 (some .int)) ({ frames := 1, cells := 0, slots := 0, locals := 20 }) (va_Pc [.int x0] (Pr D tc tb z0 [])) (vp_Si (fun r => r = (mF_StepMachineModel_signOf x0))) 0 0 (fun _ => False) := by
  refine Met.ofW (cc := b_M_signOf) (maxL := 1) (ret := (some .int)) (by decide) rfl ?_
  intro p e s m args below meth c s₁ B hml hv
  obtain ⟨rfl, hP, hK, hB⟩ := hv
  have hx := B.exec
  have hb := B.bytes
  have hr := B.returns
  have hts : ∀ w ∈ wALL, w.before _ s = true := fun w h => atoms_spec (ws := (wM y_M_signOf b_M_signOf 1 (some .int))) B.pre w (List.mem_cons_of_mem _ h)
  have hown : s.vm.findClass "StepMachineModel" = some m.cls := findClass_of_methodNamed B.named
  have hlocks := B.notSynchronized
  have hl := lv_entry ([.int x0]) (n := 1) (Nat.le_of_ble_eq_true rfl)
  rw [lg_entry_eq]
  generalize (lg_sl ([.int x0]) ++ List.replicate (1 - (lg_sl ([.int x0])).length) Slot.unset).toArray = ls at hl ⊢
  have hl : lv_has ls 1 [(0, .int x0)] := hl
  refine lv_iload_n hx hb d_M_signOf_0 rfl (lv_at hl 0 rfl) ?_
  refine lv_iconst (v := 2) hx hb d_M_signOf_1 (by decide) ?_
  refine lv_icmp_lt (tgt := 12) hx hb d_M_signOf_2 (by decide) (fun c_2 => ?_) (fun c_2 => ?_)
  · skip
    refine lv_iconst (v := (-1)) hx hb d_M_signOf_12 (by decide) ?_
    exact W.iret (v := (-1)) hx hb hr (fun t ht hW => ⟨_, rfl, by rw [mF_StepMachineModel_signOf, if_pos c_2], ht⟩) (fun q h => by cases h) d_M_signOf_13
  · skip
    refine lv_iload_n hx hb d_M_signOf_5 rfl (lv_at hl 0 rfl) ?_
    refine roSi (As := [.int x0]) (rest := []) ⟨hx, hb, hml, hown, hts⟩ (mc_StepMachineModel_isShift l D tc tb z0 x0) (va_cwS 1 hts (goodS a_618 a_619 a_10 a_620) rfl rfl rfl hs_M_isShift ⟨Nat.le_of_ble_eq_true rfl, Nat.le_of_ble_eq_true rfl⟩) (hP.sub [] rfl) hK hB rfl hl.1 rfl (Nat.le_of_ble_eq_true rfl) d_M_signOf_6 ⟨Nat.zero_le _, Nat.zero_le _⟩ ?_
    refine lv_if_eq (tgt := 14) hx hb d_M_signOf_9 (by decide) (fun c_9 => ?_) (fun c_9 => ?_)
    · skip
      refine lv_iload_n hx hb d_M_signOf_14 rfl (lv_at hl 0 rfl) ?_
      refine lv_iconst (v := 2) hx hb d_M_signOf_15 (by decide) ?_
      refine lv_icmp_ne (tgt := 22) hx hb d_M_signOf_16 (by decide) (fun c_16 => ?_) (fun c_16 => ?_)
      · skip
        refine lv_iload_n hx hb d_M_signOf_22 rfl (lv_at hl 0 rfl) ?_
        refine lv_bipush (v := 48) hx hb d_M_signOf_23 (by decide) ?_
        refine lv_icmp_ge (tgt := 43) hx hb d_M_signOf_25 (by decide) (fun c_25 => ?_) (fun c_25 => ?_)
        · skip
          refine lv_iload_n hx hb d_M_signOf_43 rfl (lv_at hl 0 rfl) ?_
          by_cases c_44_0 : x0 = 52
          · skip
            refine lv_tableIn (tgt := 120) hx hb d_M_signOf_44 (by rw [c_44_0]; decide) (by rw [c_44_0]; decide) (by rw [c_44_0] <;> rfl) (by decide) ?_
            refine lv_iconst (v := 5) hx hb d_M_signOf_120 (by decide) ?_
            exact W.iret (v := 5) hx hb hr (fun t ht hW => ⟨_, rfl, by rw [mF_StepMachineModel_signOf, if_neg c_2, if_pos c_9, if_neg c_16, if_pos c_25, if_pos c_44_0], ht⟩) (fun q h => by cases h) d_M_signOf_121
          · skip
            by_cases c_44_1 : x0 = 53
            · skip
              refine lv_tableIn (tgt := 122) hx hb d_M_signOf_44 (by rw [c_44_1]; decide) (by rw [c_44_1]; decide) (by rw [c_44_1] <;> rfl) (by decide) ?_
              refine lv_bipush (v := 11) hx hb d_M_signOf_122 (by decide) ?_
              exact W.iret (v := 11) hx hb hr (fun t ht hW => ⟨_, rfl, by rw [mF_StepMachineModel_signOf, if_neg c_2, if_pos c_9, if_neg c_16, if_pos c_25, if_neg c_44_0, if_pos c_44_1], ht⟩) (fun q h => by cases h) d_M_signOf_124
            · skip
              by_cases c_44_2 : x0 = 54
              · skip
                refine lv_tableIn (tgt := 120) hx hb d_M_signOf_44 (by rw [c_44_2]; decide) (by rw [c_44_2]; decide) (by rw [c_44_2] <;> rfl) (by decide) ?_
                refine lv_iconst (v := 5) hx hb d_M_signOf_120 (by decide) ?_
                exact W.iret (v := 5) hx hb hr (fun t ht hW => ⟨_, rfl, by rw [mF_StepMachineModel_signOf, if_neg c_2, if_pos c_9, if_neg c_16, if_pos c_25, if_neg c_44_0, if_neg c_44_1, if_pos c_44_2], ht⟩) (fun q h => by cases h) d_M_signOf_121
              · skip
                by_cases c_44_3 : x0 = 55
                · skip
                  refine lv_tableIn (tgt := 125) hx hb d_M_signOf_44 (by rw [c_44_3]; decide) (by rw [c_44_3]; decide) (by rw [c_44_3] <;> rfl) (by decide) ?_
                  refine lv_bipush (v := 9) hx hb d_M_signOf_125 (by decide) ?_
                  exact W.iret (v := 9) hx hb hr (fun t ht hW => ⟨_, rfl, by rw [mF_StepMachineModel_signOf, if_neg c_2, if_pos c_9, if_neg c_16, if_pos c_25, if_neg c_44_0, if_neg c_44_1, if_neg c_44_2, if_pos c_44_3], ht⟩) (fun q h => by cases h) d_M_signOf_127
                · skip
                  by_cases c_44_4 : x0 = 56
                  · skip
                    refine lv_tableIn (tgt := 120) hx hb d_M_signOf_44 (by rw [c_44_4]; decide) (by rw [c_44_4]; decide) (by rw [c_44_4] <;> rfl) (by decide) ?_
                    refine lv_iconst (v := 5) hx hb d_M_signOf_120 (by decide) ?_
                    exact W.iret (v := 5) hx hb hr (fun t ht hW => ⟨_, rfl, by rw [mF_StepMachineModel_signOf, if_neg c_2, if_pos c_9, if_neg c_16, if_pos c_25, if_neg c_44_0, if_neg c_44_1, if_neg c_44_2, if_neg c_44_3, if_pos c_44_4], ht⟩) (fun q h => by cases h) d_M_signOf_121
                  · skip
                    by_cases c_44_5 : x0 = 57
                    · skip
                      refine lv_tableIn (tgt := 131) hx hb d_M_signOf_44 (by rw [c_44_5]; decide) (by rw [c_44_5]; decide) (by rw [c_44_5] <;> rfl) (by decide) ?_
                      refine lv_iconst (v := (-1)) hx hb d_M_signOf_131 (by decide) ?_
                      exact W.iret (v := (-1)) hx hb hr (fun t ht hW => ⟨_, rfl, by rw [mF_StepMachineModel_signOf, if_neg c_2, if_pos c_9, if_neg c_16, if_pos c_25, if_neg c_44_0, if_neg c_44_1, if_neg c_44_2, if_neg c_44_3, if_neg c_44_4, if_pos c_44_5], ht⟩) (fun q h => by cases h) d_M_signOf_132
                    · skip
                      by_cases c_44_6 : x0 = 58
                      · skip
                        refine lv_tableIn (tgt := 131) hx hb d_M_signOf_44 (by rw [c_44_6]; decide) (by rw [c_44_6]; decide) (by rw [c_44_6] <;> rfl) (by decide) ?_
                        refine lv_iconst (v := (-1)) hx hb d_M_signOf_131 (by decide) ?_
                        exact W.iret (v := (-1)) hx hb hr (fun t ht hW => ⟨_, rfl, by rw [mF_StepMachineModel_signOf, if_neg c_2, if_pos c_9, if_neg c_16, if_pos c_25, if_neg c_44_0, if_neg c_44_1, if_neg c_44_2, if_neg c_44_3, if_neg c_44_4, if_neg c_44_5, if_pos c_44_6], ht⟩) (fun q h => by cases h) d_M_signOf_132
                      · skip
                        by_cases c_44_7 : x0 = 59
                        · skip
                          refine lv_tableIn (tgt := 120) hx hb d_M_signOf_44 (by rw [c_44_7]; decide) (by rw [c_44_7]; decide) (by rw [c_44_7] <;> rfl) (by decide) ?_
                          refine lv_iconst (v := 5) hx hb d_M_signOf_120 (by decide) ?_
                          exact W.iret (v := 5) hx hb hr (fun t ht hW => ⟨_, rfl, by rw [mF_StepMachineModel_signOf, if_neg c_2, if_pos c_9, if_neg c_16, if_pos c_25, if_neg c_44_0, if_neg c_44_1, if_neg c_44_2, if_neg c_44_3, if_neg c_44_4, if_neg c_44_5, if_neg c_44_6, if_pos c_44_7], ht⟩) (fun q h => by cases h) d_M_signOf_121
                        · skip
                          by_cases c_44_8 : x0 = 60
                          · skip
                            refine lv_tableIn (tgt := 131) hx hb d_M_signOf_44 (by rw [c_44_8]; decide) (by rw [c_44_8]; decide) (by rw [c_44_8] <;> rfl) (by decide) ?_
                            refine lv_iconst (v := (-1)) hx hb d_M_signOf_131 (by decide) ?_
                            exact W.iret (v := (-1)) hx hb hr (fun t ht hW => ⟨_, rfl, by rw [mF_StepMachineModel_signOf, if_neg c_2, if_pos c_9, if_neg c_16, if_pos c_25, if_neg c_44_0, if_neg c_44_1, if_neg c_44_2, if_neg c_44_3, if_neg c_44_4, if_neg c_44_5, if_neg c_44_6, if_neg c_44_7, if_pos c_44_8], ht⟩) (fun q h => by cases h) d_M_signOf_132
                          · skip
                            by_cases c_44_9 : x0 = 61
                            · skip
                              refine lv_tableIn (tgt := 131) hx hb d_M_signOf_44 (by rw [c_44_9]; decide) (by rw [c_44_9]; decide) (by rw [c_44_9] <;> rfl) (by decide) ?_
                              refine lv_iconst (v := (-1)) hx hb d_M_signOf_131 (by decide) ?_
                              exact W.iret (v := (-1)) hx hb hr (fun t ht hW => ⟨_, rfl, by rw [mF_StepMachineModel_signOf, if_neg c_2, if_pos c_9, if_neg c_16, if_pos c_25, if_neg c_44_0, if_neg c_44_1, if_neg c_44_2, if_neg c_44_3, if_neg c_44_4, if_neg c_44_5, if_neg c_44_6, if_neg c_44_7, if_neg c_44_8, if_pos c_44_9], ht⟩) (fun q h => by cases h) d_M_signOf_132
                            · skip
                              by_cases c_44_10 : x0 = 62
                              · skip
                                refine lv_tableIn (tgt := 131) hx hb d_M_signOf_44 (by rw [c_44_10]; decide) (by rw [c_44_10]; decide) (by rw [c_44_10] <;> rfl) (by decide) ?_
                                refine lv_iconst (v := (-1)) hx hb d_M_signOf_131 (by decide) ?_
                                exact W.iret (v := (-1)) hx hb hr (fun t ht hW => ⟨_, rfl, by rw [mF_StepMachineModel_signOf, if_neg c_2, if_pos c_9, if_neg c_16, if_pos c_25, if_neg c_44_0, if_neg c_44_1, if_neg c_44_2, if_neg c_44_3, if_neg c_44_4, if_neg c_44_5, if_neg c_44_6, if_neg c_44_7, if_neg c_44_8, if_neg c_44_9, if_pos c_44_10], ht⟩) (fun q h => by cases h) d_M_signOf_132
                              · skip
                                by_cases c_44_11 : x0 = 63
                                · skip
                                  refine lv_tableIn (tgt := 131) hx hb d_M_signOf_44 (by rw [c_44_11]; decide) (by rw [c_44_11]; decide) (by rw [c_44_11] <;> rfl) (by decide) ?_
                                  refine lv_iconst (v := (-1)) hx hb d_M_signOf_131 (by decide) ?_
                                  exact W.iret (v := (-1)) hx hb hr (fun t ht hW => ⟨_, rfl, by rw [mF_StepMachineModel_signOf, if_neg c_2, if_pos c_9, if_neg c_16, if_pos c_25, if_neg c_44_0, if_neg c_44_1, if_neg c_44_2, if_neg c_44_3, if_neg c_44_4, if_neg c_44_5, if_neg c_44_6, if_neg c_44_7, if_neg c_44_8, if_neg c_44_9, if_neg c_44_10, if_pos c_44_11], ht⟩) (fun q h => by cases h) d_M_signOf_132
                                · skip
                                  by_cases c_44_12 : x0 = 64
                                  · skip
                                    refine lv_tableIn (tgt := 122) hx hb d_M_signOf_44 (by rw [c_44_12]; decide) (by rw [c_44_12]; decide) (by rw [c_44_12] <;> rfl) (by decide) ?_
                                    refine lv_bipush (v := 11) hx hb d_M_signOf_122 (by decide) ?_
                                    exact W.iret (v := 11) hx hb hr (fun t ht hW => ⟨_, rfl, by rw [mF_StepMachineModel_signOf, if_neg c_2, if_pos c_9, if_neg c_16, if_pos c_25, if_neg c_44_0, if_neg c_44_1, if_neg c_44_2, if_neg c_44_3, if_neg c_44_4, if_neg c_44_5, if_neg c_44_6, if_neg c_44_7, if_neg c_44_8, if_neg c_44_9, if_neg c_44_10, if_neg c_44_11, if_pos c_44_12], ht⟩) (fun q h => by cases h) d_M_signOf_124
                                  · skip
                                    by_cases c_44_13 : x0 = 65
                                    · skip
                                      refine lv_tableIn (tgt := 128) hx hb d_M_signOf_44 (by rw [c_44_13]; decide) (by rw [c_44_13]; decide) (by rw [c_44_13] <;> rfl) (by decide) ?_
                                      refine lv_bipush (v := 8) hx hb d_M_signOf_128 (by decide) ?_
                                      exact W.iret (v := 8) hx hb hr (fun t ht hW => ⟨_, rfl, by rw [mF_StepMachineModel_signOf, if_neg c_2, if_pos c_9, if_neg c_16, if_pos c_25, if_neg c_44_0, if_neg c_44_1, if_neg c_44_2, if_neg c_44_3, if_neg c_44_4, if_neg c_44_5, if_neg c_44_6, if_neg c_44_7, if_neg c_44_8, if_neg c_44_9, if_neg c_44_10, if_neg c_44_11, if_neg c_44_12, if_pos c_44_13], ht⟩) (fun q h => by cases h) d_M_signOf_130
                                    · skip
                                      by_cases c_44_14 : x0 = 66
                                      · skip
                                        refine lv_tableIn (tgt := 128) hx hb d_M_signOf_44 (by rw [c_44_14]; decide) (by rw [c_44_14]; decide) (by rw [c_44_14] <;> rfl) (by decide) ?_
                                        refine lv_bipush (v := 8) hx hb d_M_signOf_128 (by decide) ?_
                                        exact W.iret (v := 8) hx hb hr (fun t ht hW => ⟨_, rfl, by rw [mF_StepMachineModel_signOf, if_neg c_2, if_pos c_9, if_neg c_16, if_pos c_25, if_neg c_44_0, if_neg c_44_1, if_neg c_44_2, if_neg c_44_3, if_neg c_44_4, if_neg c_44_5, if_neg c_44_6, if_neg c_44_7, if_neg c_44_8, if_neg c_44_9, if_neg c_44_10, if_neg c_44_11, if_neg c_44_12, if_neg c_44_13, if_pos c_44_14], ht⟩) (fun q h => by cases h) d_M_signOf_130
                                      · skip
                                        refine lv_tableOut (tgt := 131) hx hb d_M_signOf_44 (by have n_0 := lv_neT (a := 52) c_44_0 (by decide); have n_1 := lv_neT (a := 53) c_44_1 (by decide); have n_2 := lv_neT (a := 54) c_44_2 (by decide); have n_3 := lv_neT (a := 55) c_44_3 (by decide); have n_4 := lv_neT (a := 56) c_44_4 (by decide); have n_5 := lv_neT (a := 57) c_44_5 (by decide); have n_6 := lv_neT (a := 58) c_44_6 (by decide); have n_7 := lv_neT (a := 59) c_44_7 (by decide); have n_8 := lv_neT (a := 60) c_44_8 (by decide); have n_9 := lv_neT (a := 61) c_44_9 (by decide); have n_10 := lv_neT (a := 62) c_44_10 (by decide); have n_11 := lv_neT (a := 63) c_44_11 (by decide); have n_12 := lv_neT (a := 64) c_44_12 (by decide); have n_13 := lv_neT (a := 65) c_44_13 (by decide); have n_14 := lv_neT (a := 66) c_44_14 (by decide); omega) (by decide) ?_
                                        refine lv_iconst (v := (-1)) hx hb d_M_signOf_131 (by decide) ?_
                                        exact W.iret (v := (-1)) hx hb hr (fun t ht hW => ⟨_, rfl, by rw [mF_StepMachineModel_signOf, if_neg c_2, if_pos c_9, if_neg c_16, if_pos c_25, if_neg c_44_0, if_neg c_44_1, if_neg c_44_2, if_neg c_44_3, if_neg c_44_4, if_neg c_44_5, if_neg c_44_6, if_neg c_44_7, if_neg c_44_8, if_neg c_44_9, if_neg c_44_10, if_neg c_44_11, if_neg c_44_12, if_neg c_44_13, if_neg c_44_14], ht⟩) (fun q h => by cases h) d_M_signOf_132
        · skip
          refine lv_iload_n hx hb d_M_signOf_28 rfl (lv_at hl 0 rfl) ?_
          refine roSi (As := [.int x0]) (rest := []) ⟨hx, hb, hml, hown, hts⟩ (mc_StepMachineModel_isBranch l D tc tb z0 x0) (va_cwS 1 hts (goodS a_609 a_610 a_10 a_611) rfl rfl rfl hs_M_isBranch ⟨Nat.le_of_ble_eq_true rfl, Nat.le_of_ble_eq_true rfl⟩) (hP.sub [] rfl) hK hB rfl hl.1 rfl (Nat.le_of_ble_eq_true rfl) d_M_signOf_29 ⟨Nat.zero_le _, Nat.zero_le _⟩ ?_
          refine lv_if_eq (tgt := 40) hx hb d_M_signOf_32 (by decide) (fun c_32 => ?_) (fun c_32 => ?_)
          · skip
            refine lv_bipush (v := 11) hx hb d_M_signOf_40 (by decide) ?_
            exact W.iret (v := 11) hx hb hr (fun t ht hW => ⟨_, rfl, by rw [mF_StepMachineModel_signOf, if_neg c_2, if_pos c_9, if_neg c_16, if_neg c_25, if_pos c_32], ht⟩) (fun q h => by cases h) d_M_signOf_42
          · skip
            refine lv_bipush (v := 12) hx hb d_M_signOf_35 (by decide) ?_
            refine lv_goto (tgt := 42) hx hb d_M_signOf_37 (by decide) ?_
            exact W.iret (v := 12) hx hb hr (fun t ht hW => ⟨_, rfl, by rw [mF_StepMachineModel_signOf, if_neg c_2, if_pos c_9, if_neg c_16, if_neg c_25, if_neg c_32], ht⟩) (fun q h => by cases h) d_M_signOf_42
      · skip
        refine lv_bipush (v := 20) hx hb d_M_signOf_19 (by decide) ?_
        exact W.iret (v := 20) hx hb hr (fun t ht hW => ⟨_, rfl, by rw [mF_StepMachineModel_signOf, if_neg c_2, if_pos c_9, if_pos c_16], ht⟩) (fun q h => by cases h) d_M_signOf_21
    · skip
      refine lv_iconst (v := (-1)) hx hb d_M_signOf_12 (by decide) ?_
      exact W.iret (v := (-1)) hx hb hr (fun t ht hW => ⟨_, rfl, by rw [mF_StepMachineModel_signOf, if_neg c_2, if_neg c_9], ht⟩) (fun q h => by cases h) d_M_signOf_13
def mF_StepMachineModel_multiplied (x0 : Int32) (x1 : Int32) (x2 : Int32) : Int32 := (if x0 = 37 then (x1 * x2) else (if x0 = 38 then (j_lshr (x1.toInt64 * x2.toInt64) 32).toInt32 else (if x0 = 39 then (j_lshr (x1.toInt64 * (mF_StepMachineModel_bare x2)) 32).toInt32 else (if x0 = 40 then (j_lushr ((mF_StepMachineModel_bare x1) * (mF_StepMachineModel_bare x2)) 32).toInt32 else (if x0 = 41 then (if x2 = 0 then (-1) else (if x2 = (-1) then (-x1) else (x1 / x2))) else (if x0 = 42 then (if x2 = 0 then (-1) else ((mF_StepMachineModel_bare x1) / (mF_StepMachineModel_bare x2)).toInt32) else (if x0 = 43 then (if x2 = 0 then x1 else (if x2 = (-1) then 0 else (x1 - x1 / x2 * x2))) else (if x2 = 0 then x1 else ((mF_StepMachineModel_bare x1) - (mF_StepMachineModel_bare x1) / (mF_StepMachineModel_bare x2) * (mF_StepMachineModel_bare x2)).toInt32))))))))
set_option maxHeartbeats 4000000 in
set_option maxRecDepth 100000 in
theorem mc_StepMachineModel_multiplied (l : Launch) (D : va_G) (tc : Nat → ClassId) (tb : Nat → Nat) (z0 : Nat) (x0 : Int32) (x1 : Int32) (x2 : Int32) : Met l y_M_multiplied (wM y_M_multiplied b_M_multiplied 3 (some .int)) ({ frames := 1, cells := 0, slots := 0, locals := 20 }) (va_Pc [.int x0, .int x1, .int x2] (Pr D tc tb z0 [])) (vp_Si (fun r => r = (mF_StepMachineModel_multiplied x0 x1 x2))) 0 0 (fun _ => False) := by
  refine Met.ofW (cc := b_M_multiplied) (maxL := 3) (ret := (some .int)) (by decide) rfl ?_
  intro p e s m args below meth c s₁ B hml hv
  obtain ⟨rfl, hP, hK, hB⟩ := hv
  have hx := B.exec
  have hb := B.bytes
  have hr := B.returns
  have hts : ∀ w ∈ wALL, w.before _ s = true := fun w h => atoms_spec (ws := (wM y_M_multiplied b_M_multiplied 3 (some .int))) B.pre w (List.mem_cons_of_mem _ h)
  have hown : s.vm.findClass "StepMachineModel" = some m.cls := findClass_of_methodNamed B.named
  have hlocks := B.notSynchronized
  have hl := lv_entry ([.int x0, .int x1, .int x2]) (n := 3) (Nat.le_of_ble_eq_true rfl)
  rw [lg_entry_eq]
  generalize (lg_sl ([.int x0, .int x1, .int x2]) ++ List.replicate (3 - (lg_sl ([.int x0, .int x1, .int x2])).length) Slot.unset).toArray = ls at hl ⊢
  have hl : lv_has ls 3 [(0, .int x0), (1, .int x1), (2, .int x2)] := hl
  refine lv_iload_n hx hb d_M_multiplied_0 rfl (lv_at hl 0 rfl) ?_
  by_cases c_1_0 : x0 = 37
  · skip
    refine lv_tableIn (tgt := 44) hx hb d_M_multiplied_1 (by rw [c_1_0]; decide) (by rw [c_1_0]; decide) (by rw [c_1_0] <;> rfl) (by decide) ?_
    refine lv_iload_n hx hb d_M_multiplied_44 rfl (lv_at hl 1 rfl) ?_
    refine lv_iload_n hx hb d_M_multiplied_45 rfl (lv_at hl 2 rfl) ?_
    refine lv_imul hx hb d_M_multiplied_46 ?_
    exact W.iret (v := (x1 * x2)) hx hb hr (fun t ht hW => ⟨_, rfl, by rw [mF_StepMachineModel_multiplied, if_pos c_1_0], ht⟩) (fun q h => by cases h) d_M_multiplied_47
  · skip
    by_cases c_1_1 : x0 = 38
    · skip
      refine lv_tableIn (tgt := 48) hx hb d_M_multiplied_1 (by rw [c_1_1]; decide) (by rw [c_1_1]; decide) (by rw [c_1_1] <;> rfl) (by decide) ?_
      refine lv_iload_n hx hb d_M_multiplied_48 rfl (lv_at hl 1 rfl) ?_
      refine lv_i2l (v := x1.toInt64) hx hb d_M_multiplied_49 rfl ?_
      refine lv_iload_n hx hb d_M_multiplied_50 rfl (lv_at hl 2 rfl) ?_
      refine lv_i2l (v := x2.toInt64) hx hb d_M_multiplied_51 rfl ?_
      refine lv_lmul hx hb d_M_multiplied_52 ?_
      refine lv_bipush (v := 32) hx hb d_M_multiplied_53 (by decide) ?_
      refine lv_lshr (v := (j_lshr (x1.toInt64 * x2.toInt64) 32)) hx hb d_M_multiplied_55 rfl ?_
      refine lv_l2i (v := (j_lshr (x1.toInt64 * x2.toInt64) 32).toInt32) hx hb d_M_multiplied_56 rfl ?_
      exact W.iret (v := (j_lshr (x1.toInt64 * x2.toInt64) 32).toInt32) hx hb hr (fun t ht hW => ⟨_, rfl, by rw [mF_StepMachineModel_multiplied, if_neg c_1_0, if_pos c_1_1], ht⟩) (fun q h => by cases h) d_M_multiplied_57
    · skip
      by_cases c_1_2 : x0 = 39
      · skip
        refine lv_tableIn (tgt := 58) hx hb d_M_multiplied_1 (by rw [c_1_2]; decide) (by rw [c_1_2]; decide) (by rw [c_1_2] <;> rfl) (by decide) ?_
        refine lv_iload_n hx hb d_M_multiplied_58 rfl (lv_at hl 1 rfl) ?_
        refine lv_i2l (v := x1.toInt64) hx hb d_M_multiplied_59 rfl ?_
        refine lv_iload_n hx hb d_M_multiplied_60 rfl (lv_at hl 2 rfl) ?_
        refine roSl (As := [.int x2]) (rest := [.long x1.toInt64]) ⟨hx, hb, hml, hown, hts⟩ (mc_StepMachineModel_bare l D tc tb z0 x2) (va_cwS 1 hts (goodS a_746 a_747 a_10 a_748) rfl rfl rfl hs_M_bare ⟨Nat.le_of_ble_eq_true rfl, Nat.le_of_ble_eq_true rfl⟩) (hP.sub [] rfl) hK hB rfl hl.1 rfl (Nat.le_of_ble_eq_true rfl) d_M_multiplied_61 ⟨Nat.zero_le _, Nat.zero_le _⟩ ?_
        refine lv_lmul hx hb d_M_multiplied_64 ?_
        refine lv_bipush (v := 32) hx hb d_M_multiplied_65 (by decide) ?_
        refine lv_lshr (v := (j_lshr (x1.toInt64 * (mF_StepMachineModel_bare x2)) 32)) hx hb d_M_multiplied_67 rfl ?_
        refine lv_l2i (v := (j_lshr (x1.toInt64 * (mF_StepMachineModel_bare x2)) 32).toInt32) hx hb d_M_multiplied_68 rfl ?_
        exact W.iret (v := (j_lshr (x1.toInt64 * (mF_StepMachineModel_bare x2)) 32).toInt32) hx hb hr (fun t ht hW => ⟨_, rfl, by rw [mF_StepMachineModel_multiplied, if_neg c_1_0, if_neg c_1_1, if_pos c_1_2], ht⟩) (fun q h => by cases h) d_M_multiplied_69
      · skip
        by_cases c_1_3 : x0 = 40
        · skip
          refine lv_tableIn (tgt := 70) hx hb d_M_multiplied_1 (by rw [c_1_3]; decide) (by rw [c_1_3]; decide) (by rw [c_1_3] <;> rfl) (by decide) ?_
          refine lv_iload_n hx hb d_M_multiplied_70 rfl (lv_at hl 1 rfl) ?_
          refine roSl (As := [.int x1]) (rest := []) ⟨hx, hb, hml, hown, hts⟩ (mc_StepMachineModel_bare l D tc tb z0 x1) (va_cwS 1 hts (goodS a_746 a_747 a_10 a_748) rfl rfl rfl hs_M_bare ⟨Nat.le_of_ble_eq_true rfl, Nat.le_of_ble_eq_true rfl⟩) (hP.sub [] rfl) hK hB rfl hl.1 rfl (Nat.le_of_ble_eq_true rfl) d_M_multiplied_71 ⟨Nat.zero_le _, Nat.zero_le _⟩ ?_
          refine lv_iload_n hx hb d_M_multiplied_74 rfl (lv_at hl 2 rfl) ?_
          refine roSl (As := [.int x2]) (rest := [.long (mF_StepMachineModel_bare x1)]) ⟨hx, hb, hml, hown, hts⟩ (mc_StepMachineModel_bare l D tc tb z0 x2) (va_cwS 1 hts (goodS a_746 a_747 a_10 a_748) rfl rfl rfl hs_M_bare ⟨Nat.le_of_ble_eq_true rfl, Nat.le_of_ble_eq_true rfl⟩) (hP.sub [] rfl) hK hB rfl hl.1 rfl (Nat.le_of_ble_eq_true rfl) d_M_multiplied_75 ⟨Nat.zero_le _, Nat.zero_le _⟩ ?_
          refine lv_lmul hx hb d_M_multiplied_78 ?_
          refine lv_bipush (v := 32) hx hb d_M_multiplied_79 (by decide) ?_
          refine lv_lushr (v := (j_lushr ((mF_StepMachineModel_bare x1) * (mF_StepMachineModel_bare x2)) 32)) hx hb d_M_multiplied_81 rfl ?_
          refine lv_l2i (v := (j_lushr ((mF_StepMachineModel_bare x1) * (mF_StepMachineModel_bare x2)) 32).toInt32) hx hb d_M_multiplied_82 rfl ?_
          exact W.iret (v := (j_lushr ((mF_StepMachineModel_bare x1) * (mF_StepMachineModel_bare x2)) 32).toInt32) hx hb hr (fun t ht hW => ⟨_, rfl, by rw [mF_StepMachineModel_multiplied, if_neg c_1_0, if_neg c_1_1, if_neg c_1_2, if_pos c_1_3], ht⟩) (fun q h => by cases h) d_M_multiplied_83
        · skip
          by_cases c_1_4 : x0 = 41
          · skip
            refine lv_tableIn (tgt := 84) hx hb d_M_multiplied_1 (by rw [c_1_4]; decide) (by rw [c_1_4]; decide) (by rw [c_1_4] <;> rfl) (by decide) ?_
            refine lv_iload_n hx hb d_M_multiplied_84 rfl (lv_at hl 2 rfl) ?_
            refine lv_if_ne (tgt := 92) hx hb d_M_multiplied_85 (by decide) (fun c_85 => ?_) (fun c_85 => ?_)
            · skip
              refine lv_iload_n hx hb d_M_multiplied_92 rfl (lv_at hl 2 rfl) ?_
              refine lv_iconst (v := (-1)) hx hb d_M_multiplied_93 (by decide) ?_
              refine lv_icmp_ne (tgt := 102) hx hb d_M_multiplied_94 (by decide) (fun c_94 => ?_) (fun c_94 => ?_)
              · skip
                refine lv_iload_n hx hb d_M_multiplied_102 rfl (lv_at hl 1 rfl) ?_
                refine lv_iload_n hx hb d_M_multiplied_103 rfl (lv_at hl 2 rfl) ?_
                refine lv_idiv hx hb d_M_multiplied_104 c_85 ?_
                exact W.iret (v := (x1 / x2)) hx hb hr (fun t ht hW => ⟨_, rfl, by rw [mF_StepMachineModel_multiplied, if_neg c_1_0, if_neg c_1_1, if_neg c_1_2, if_neg c_1_3, if_pos c_1_4, if_neg c_85, if_neg c_94], ht⟩) (fun q h => by cases h) d_M_multiplied_105
              · skip
                refine lv_iload_n hx hb d_M_multiplied_97 rfl (lv_at hl 1 rfl) ?_
                refine lv_ineg hx hb d_M_multiplied_98 ?_
                refine lv_goto (tgt := 105) hx hb d_M_multiplied_99 (by decide) ?_
                exact W.iret (v := (-x1)) hx hb hr (fun t ht hW => ⟨_, rfl, by rw [mF_StepMachineModel_multiplied, if_neg c_1_0, if_neg c_1_1, if_neg c_1_2, if_neg c_1_3, if_pos c_1_4, if_neg c_85, if_pos c_94], ht⟩) (fun q h => by cases h) d_M_multiplied_105
            · skip
              refine lv_iconst (v := (-1)) hx hb d_M_multiplied_88 (by decide) ?_
              refine lv_goto (tgt := 105) hx hb d_M_multiplied_89 (by decide) ?_
              exact W.iret (v := (-1)) hx hb hr (fun t ht hW => ⟨_, rfl, by rw [mF_StepMachineModel_multiplied, if_neg c_1_0, if_neg c_1_1, if_neg c_1_2, if_neg c_1_3, if_pos c_1_4, if_pos c_85], ht⟩) (fun q h => by cases h) d_M_multiplied_105
          · skip
            by_cases c_1_5 : x0 = 42
            · skip
              refine lv_tableIn (tgt := 106) hx hb d_M_multiplied_1 (by rw [c_1_5]; decide) (by rw [c_1_5]; decide) (by rw [c_1_5] <;> rfl) (by decide) ?_
              refine lv_iload_n hx hb d_M_multiplied_106 rfl (lv_at hl 2 rfl) ?_
              refine lv_if_ne (tgt := 114) hx hb d_M_multiplied_107 (by decide) (fun c_107 => ?_) (fun c_107 => ?_)
              · skip
                refine lv_iload_n hx hb d_M_multiplied_114 rfl (lv_at hl 1 rfl) ?_
                refine roSl (As := [.int x1]) (rest := []) ⟨hx, hb, hml, hown, hts⟩ (mc_StepMachineModel_bare l D tc tb z0 x1) (va_cwS 1 hts (goodS a_746 a_747 a_10 a_748) rfl rfl rfl hs_M_bare ⟨Nat.le_of_ble_eq_true rfl, Nat.le_of_ble_eq_true rfl⟩) (hP.sub [] rfl) hK hB rfl hl.1 rfl (Nat.le_of_ble_eq_true rfl) d_M_multiplied_115 ⟨Nat.zero_le _, Nat.zero_le _⟩ ?_
                refine lv_iload_n hx hb d_M_multiplied_118 rfl (lv_at hl 2 rfl) ?_
                refine roSl (As := [.int x2]) (rest := [.long (mF_StepMachineModel_bare x1)]) ⟨hx, hb, hml, hown, hts⟩ (mc_StepMachineModel_bare l D tc tb z0 x2) (va_cwS 1 hts (goodS a_746 a_747 a_10 a_748) rfl rfl rfl hs_M_bare ⟨Nat.le_of_ble_eq_true rfl, Nat.le_of_ble_eq_true rfl⟩) (hP.sub [] rfl) hK hB rfl hl.1 rfl (Nat.le_of_ble_eq_true rfl) d_M_multiplied_119 ⟨Nat.zero_le _, Nat.zero_le _⟩ ?_
                refine lv_ldiv hx hb d_M_multiplied_122 (bare_ne c_107) ?_
                refine lv_l2i (v := ((mF_StepMachineModel_bare x1) / (mF_StepMachineModel_bare x2)).toInt32) hx hb d_M_multiplied_123 rfl ?_
                exact W.iret (v := ((mF_StepMachineModel_bare x1) / (mF_StepMachineModel_bare x2)).toInt32) hx hb hr (fun t ht hW => ⟨_, rfl, by rw [mF_StepMachineModel_multiplied, if_neg c_1_0, if_neg c_1_1, if_neg c_1_2, if_neg c_1_3, if_neg c_1_4, if_pos c_1_5, if_neg c_107], ht⟩) (fun q h => by cases h) d_M_multiplied_124
              · skip
                refine lv_iconst (v := (-1)) hx hb d_M_multiplied_110 (by decide) ?_
                refine lv_goto (tgt := 124) hx hb d_M_multiplied_111 (by decide) ?_
                exact W.iret (v := (-1)) hx hb hr (fun t ht hW => ⟨_, rfl, by rw [mF_StepMachineModel_multiplied, if_neg c_1_0, if_neg c_1_1, if_neg c_1_2, if_neg c_1_3, if_neg c_1_4, if_pos c_1_5, if_pos c_107], ht⟩) (fun q h => by cases h) d_M_multiplied_124
            · skip
              by_cases c_1_6 : x0 = 43
              · skip
                refine lv_tableIn (tgt := 125) hx hb d_M_multiplied_1 (by rw [c_1_6]; decide) (by rw [c_1_6]; decide) (by rw [c_1_6] <;> rfl) (by decide) ?_
                refine lv_iload_n hx hb d_M_multiplied_125 rfl (lv_at hl 2 rfl) ?_
                refine lv_if_ne (tgt := 133) hx hb d_M_multiplied_126 (by decide) (fun c_126 => ?_) (fun c_126 => ?_)
                · skip
                  refine lv_iload_n hx hb d_M_multiplied_133 rfl (lv_at hl 2 rfl) ?_
                  refine lv_iconst (v := (-1)) hx hb d_M_multiplied_134 (by decide) ?_
                  refine lv_icmp_ne (tgt := 142) hx hb d_M_multiplied_135 (by decide) (fun c_135 => ?_) (fun c_135 => ?_)
                  · skip
                    refine lv_iload_n hx hb d_M_multiplied_142 rfl (lv_at hl 1 rfl) ?_
                    refine lv_iload_n hx hb d_M_multiplied_143 rfl (lv_at hl 2 rfl) ?_
                    refine lv_irem hx hb d_M_multiplied_144 c_126 ?_
                    exact W.iret (v := (x1 - x1 / x2 * x2)) hx hb hr (fun t ht hW => ⟨_, rfl, by rw [mF_StepMachineModel_multiplied, if_neg c_1_0, if_neg c_1_1, if_neg c_1_2, if_neg c_1_3, if_neg c_1_4, if_neg c_1_5, if_pos c_1_6, if_neg c_126, if_neg c_135], ht⟩) (fun q h => by cases h) d_M_multiplied_145
                  · skip
                    refine lv_iconst (v := 0) hx hb d_M_multiplied_138 (by decide) ?_
                    refine lv_goto (tgt := 145) hx hb d_M_multiplied_139 (by decide) ?_
                    exact W.iret (v := 0) hx hb hr (fun t ht hW => ⟨_, rfl, by rw [mF_StepMachineModel_multiplied, if_neg c_1_0, if_neg c_1_1, if_neg c_1_2, if_neg c_1_3, if_neg c_1_4, if_neg c_1_5, if_pos c_1_6, if_neg c_126, if_pos c_135], ht⟩) (fun q h => by cases h) d_M_multiplied_145
                · skip
                  refine lv_iload_n hx hb d_M_multiplied_129 rfl (lv_at hl 1 rfl) ?_
                  refine lv_goto (tgt := 145) hx hb d_M_multiplied_130 (by decide) ?_
                  exact W.iret (v := x1) hx hb hr (fun t ht hW => ⟨_, rfl, by rw [mF_StepMachineModel_multiplied, if_neg c_1_0, if_neg c_1_1, if_neg c_1_2, if_neg c_1_3, if_neg c_1_4, if_neg c_1_5, if_pos c_1_6, if_pos c_126], ht⟩) (fun q h => by cases h) d_M_multiplied_145
              · skip
                refine lv_tableOut (tgt := 146) hx hb d_M_multiplied_1 (by have n_0 := lv_neT (a := 37) c_1_0 (by decide); have n_1 := lv_neT (a := 38) c_1_1 (by decide); have n_2 := lv_neT (a := 39) c_1_2 (by decide); have n_3 := lv_neT (a := 40) c_1_3 (by decide); have n_4 := lv_neT (a := 41) c_1_4 (by decide); have n_5 := lv_neT (a := 42) c_1_5 (by decide); have n_6 := lv_neT (a := 43) c_1_6 (by decide); omega) (by decide) ?_
                refine lv_iload_n hx hb d_M_multiplied_146 rfl (lv_at hl 2 rfl) ?_
                refine lv_if_ne (tgt := 154) hx hb d_M_multiplied_147 (by decide) (fun c_147 => ?_) (fun c_147 => ?_)
                · skip
                  refine lv_iload_n hx hb d_M_multiplied_154 rfl (lv_at hl 1 rfl) ?_
                  refine roSl (As := [.int x1]) (rest := []) ⟨hx, hb, hml, hown, hts⟩ (mc_StepMachineModel_bare l D tc tb z0 x1) (va_cwS 1 hts (goodS a_746 a_747 a_10 a_748) rfl rfl rfl hs_M_bare ⟨Nat.le_of_ble_eq_true rfl, Nat.le_of_ble_eq_true rfl⟩) (hP.sub [] rfl) hK hB rfl hl.1 rfl (Nat.le_of_ble_eq_true rfl) d_M_multiplied_155 ⟨Nat.zero_le _, Nat.zero_le _⟩ ?_
                  refine lv_iload_n hx hb d_M_multiplied_158 rfl (lv_at hl 2 rfl) ?_
                  refine roSl (As := [.int x2]) (rest := [.long (mF_StepMachineModel_bare x1)]) ⟨hx, hb, hml, hown, hts⟩ (mc_StepMachineModel_bare l D tc tb z0 x2) (va_cwS 1 hts (goodS a_746 a_747 a_10 a_748) rfl rfl rfl hs_M_bare ⟨Nat.le_of_ble_eq_true rfl, Nat.le_of_ble_eq_true rfl⟩) (hP.sub [] rfl) hK hB rfl hl.1 rfl (Nat.le_of_ble_eq_true rfl) d_M_multiplied_159 ⟨Nat.zero_le _, Nat.zero_le _⟩ ?_
                  refine lv_lrem hx hb d_M_multiplied_162 (bare_ne c_147) ?_
                  refine lv_l2i (v := ((mF_StepMachineModel_bare x1) - (mF_StepMachineModel_bare x1) / (mF_StepMachineModel_bare x2) * (mF_StepMachineModel_bare x2)).toInt32) hx hb d_M_multiplied_163 rfl ?_
                  exact W.iret (v := ((mF_StepMachineModel_bare x1) - (mF_StepMachineModel_bare x1) / (mF_StepMachineModel_bare x2) * (mF_StepMachineModel_bare x2)).toInt32) hx hb hr (fun t ht hW => ⟨_, rfl, by rw [mF_StepMachineModel_multiplied, if_neg c_1_0, if_neg c_1_1, if_neg c_1_2, if_neg c_1_3, if_neg c_1_4, if_neg c_1_5, if_neg c_1_6, if_neg c_147], ht⟩) (fun q h => by cases h) d_M_multiplied_164
                · skip
                  refine lv_iload_n hx hb d_M_multiplied_150 rfl (lv_at hl 1 rfl) ?_
                  refine lv_goto (tgt := 164) hx hb d_M_multiplied_151 (by decide) ?_
                  exact W.iret (v := x1) hx hb hr (fun t ht hW => ⟨_, rfl, by rw [mF_StepMachineModel_multiplied, if_neg c_1_0, if_neg c_1_1, if_neg c_1_2, if_neg c_1_3, if_neg c_1_4, if_neg c_1_5, if_neg c_1_6, if_pos c_147], ht⟩) (fun q h => by cases h) d_M_multiplied_164
def mF_StepMachineModel_branches (x0 : Int32) (x1 : Int32) (x2 : Int32) : Int32 := (if x0 = 4 then (if x1 = x2 then 1 else 0) else (if x0 = 5 then (if x1 = x2 then 0 else 1) else (if x0 = 6 then (if x2 ≤ x1 then 0 else 1) else (if x0 = 7 then (if x1 < x2 then 0 else 1) else (if x0 = 8 then (if 0 ≤ (lg_cmp (mF_StepMachineModel_bare x1) (mF_StepMachineModel_bare x2)) then 0 else 1) else (if (lg_cmp (mF_StepMachineModel_bare x1) (mF_StepMachineModel_bare x2)) < 0 then 0 else 1))))))
set_option maxHeartbeats 4000000 in
set_option maxRecDepth 100000 in
theorem mc_StepMachineModel_branches (l : Launch) (D : va_G) (tc : Nat → ClassId) (tb : Nat → Nat) (z0 : Nat) (x0 : Int32) (x1 : Int32) (x2 : Int32) : Met l y_M_branches (wM y_M_branches b_M_branches 3 (some .boolean)) ({ frames := 1, cells := 0, slots := 0, locals := 20 }) (va_Pc [.int x0, .int x1, .int x2] (Pr D tc tb z0 [])) (vp_Si (fun r => r = (mF_StepMachineModel_branches x0 x1 x2))) 0 0 (fun _ => False) := by
  refine Met.ofW (cc := b_M_branches) (maxL := 3) (ret := (some .boolean)) (by decide) rfl ?_
  intro p e s m args below meth c s₁ B hml hv
  obtain ⟨rfl, hP, hK, hB⟩ := hv
  have hx := B.exec
  have hb := B.bytes
  have hr := B.returns
  have hts : ∀ w ∈ wALL, w.before _ s = true := fun w h => atoms_spec (ws := (wM y_M_branches b_M_branches 3 (some .boolean))) B.pre w (List.mem_cons_of_mem _ h)
  have hown : s.vm.findClass "StepMachineModel" = some m.cls := findClass_of_methodNamed B.named
  have hlocks := B.notSynchronized
  have hl := lv_entry ([.int x0, .int x1, .int x2]) (n := 3) (Nat.le_of_ble_eq_true rfl)
  rw [lg_entry_eq]
  generalize (lg_sl ([.int x0, .int x1, .int x2]) ++ List.replicate (3 - (lg_sl ([.int x0, .int x1, .int x2])).length) Slot.unset).toArray = ls at hl ⊢
  have hl : lv_has ls 3 [(0, .int x0), (1, .int x1), (2, .int x2)] := hl
  refine lv_iload_n hx hb d_M_branches_0 rfl (lv_at hl 0 rfl) ?_
  by_cases c_1_0 : x0 = 4
  · skip
    refine lv_tableIn (tgt := 36) hx hb d_M_branches_1 (by rw [c_1_0]; decide) (by rw [c_1_0]; decide) (by rw [c_1_0] <;> rfl) (by decide) ?_
    refine lv_iload_n hx hb d_M_branches_36 rfl (lv_at hl 1 rfl) ?_
    refine lv_iload_n hx hb d_M_branches_37 rfl (lv_at hl 2 rfl) ?_
    refine lv_icmp_ne (tgt := 45) hx hb d_M_branches_38 (by decide) (fun c_38 => ?_) (fun c_38 => ?_)
    · skip
      refine lv_iconst (v := 0) hx hb d_M_branches_45 (by decide) ?_
      exact W.zret (v := 0) hx hb hr rfl (fun t ht hW => ⟨_, rfl, by rw [mF_StepMachineModel_branches, if_pos c_1_0, if_neg c_38], ht⟩) (fun q h => by cases h) d_M_branches_46
    · skip
      refine lv_iconst (v := 1) hx hb d_M_branches_41 (by decide) ?_
      refine lv_goto (tgt := 46) hx hb d_M_branches_42 (by decide) ?_
      exact W.zret (v := 1) hx hb hr rfl (fun t ht hW => ⟨_, rfl, by rw [mF_StepMachineModel_branches, if_pos c_1_0, if_pos c_38], ht⟩) (fun q h => by cases h) d_M_branches_46
  · skip
    by_cases c_1_1 : x0 = 5
    · skip
      refine lv_tableIn (tgt := 47) hx hb d_M_branches_1 (by rw [c_1_1]; decide) (by rw [c_1_1]; decide) (by rw [c_1_1] <;> rfl) (by decide) ?_
      refine lv_iload_n hx hb d_M_branches_47 rfl (lv_at hl 1 rfl) ?_
      refine lv_iload_n hx hb d_M_branches_48 rfl (lv_at hl 2 rfl) ?_
      refine lv_icmp_eq (tgt := 56) hx hb d_M_branches_49 (by decide) (fun c_49 => ?_) (fun c_49 => ?_)
      · skip
        refine lv_iconst (v := 0) hx hb d_M_branches_56 (by decide) ?_
        exact W.zret (v := 0) hx hb hr rfl (fun t ht hW => ⟨_, rfl, by rw [mF_StepMachineModel_branches, if_neg c_1_0, if_pos c_1_1, if_pos c_49], ht⟩) (fun q h => by cases h) d_M_branches_57
      · skip
        refine lv_iconst (v := 1) hx hb d_M_branches_52 (by decide) ?_
        refine lv_goto (tgt := 57) hx hb d_M_branches_53 (by decide) ?_
        exact W.zret (v := 1) hx hb hr rfl (fun t ht hW => ⟨_, rfl, by rw [mF_StepMachineModel_branches, if_neg c_1_0, if_pos c_1_1, if_neg c_49], ht⟩) (fun q h => by cases h) d_M_branches_57
    · skip
      by_cases c_1_2 : x0 = 6
      · skip
        refine lv_tableIn (tgt := 58) hx hb d_M_branches_1 (by rw [c_1_2]; decide) (by rw [c_1_2]; decide) (by rw [c_1_2] <;> rfl) (by decide) ?_
        refine lv_iload_n hx hb d_M_branches_58 rfl (lv_at hl 1 rfl) ?_
        refine lv_iload_n hx hb d_M_branches_59 rfl (lv_at hl 2 rfl) ?_
        refine lv_icmp_ge (tgt := 67) hx hb d_M_branches_60 (by decide) (fun c_60 => ?_) (fun c_60 => ?_)
        · skip
          refine lv_iconst (v := 0) hx hb d_M_branches_67 (by decide) ?_
          exact W.zret (v := 0) hx hb hr rfl (fun t ht hW => ⟨_, rfl, by rw [mF_StepMachineModel_branches, if_neg c_1_0, if_neg c_1_1, if_pos c_1_2, if_pos c_60], ht⟩) (fun q h => by cases h) d_M_branches_68
        · skip
          refine lv_iconst (v := 1) hx hb d_M_branches_63 (by decide) ?_
          refine lv_goto (tgt := 68) hx hb d_M_branches_64 (by decide) ?_
          exact W.zret (v := 1) hx hb hr rfl (fun t ht hW => ⟨_, rfl, by rw [mF_StepMachineModel_branches, if_neg c_1_0, if_neg c_1_1, if_pos c_1_2, if_neg c_60], ht⟩) (fun q h => by cases h) d_M_branches_68
      · skip
        by_cases c_1_3 : x0 = 7
        · skip
          refine lv_tableIn (tgt := 69) hx hb d_M_branches_1 (by rw [c_1_3]; decide) (by rw [c_1_3]; decide) (by rw [c_1_3] <;> rfl) (by decide) ?_
          refine lv_iload_n hx hb d_M_branches_69 rfl (lv_at hl 1 rfl) ?_
          refine lv_iload_n hx hb d_M_branches_70 rfl (lv_at hl 2 rfl) ?_
          refine lv_icmp_lt (tgt := 78) hx hb d_M_branches_71 (by decide) (fun c_71 => ?_) (fun c_71 => ?_)
          · skip
            refine lv_iconst (v := 0) hx hb d_M_branches_78 (by decide) ?_
            exact W.zret (v := 0) hx hb hr rfl (fun t ht hW => ⟨_, rfl, by rw [mF_StepMachineModel_branches, if_neg c_1_0, if_neg c_1_1, if_neg c_1_2, if_pos c_1_3, if_pos c_71], ht⟩) (fun q h => by cases h) d_M_branches_79
          · skip
            refine lv_iconst (v := 1) hx hb d_M_branches_74 (by decide) ?_
            refine lv_goto (tgt := 79) hx hb d_M_branches_75 (by decide) ?_
            exact W.zret (v := 1) hx hb hr rfl (fun t ht hW => ⟨_, rfl, by rw [mF_StepMachineModel_branches, if_neg c_1_0, if_neg c_1_1, if_neg c_1_2, if_pos c_1_3, if_neg c_71], ht⟩) (fun q h => by cases h) d_M_branches_79
        · skip
          by_cases c_1_4 : x0 = 8
          · skip
            refine lv_tableIn (tgt := 80) hx hb d_M_branches_1 (by rw [c_1_4]; decide) (by rw [c_1_4]; decide) (by rw [c_1_4] <;> rfl) (by decide) ?_
            refine lv_iload_n hx hb d_M_branches_80 rfl (lv_at hl 1 rfl) ?_
            refine roSl (As := [.int x1]) (rest := []) ⟨hx, hb, hml, hown, hts⟩ (mc_StepMachineModel_bare l D tc tb z0 x1) (va_cwS 1 hts (goodS a_746 a_747 a_10 a_748) rfl rfl rfl hs_M_bare ⟨Nat.le_of_ble_eq_true rfl, Nat.le_of_ble_eq_true rfl⟩) (hP.sub [] rfl) hK hB rfl hl.1 rfl (Nat.le_of_ble_eq_true rfl) d_M_branches_81 ⟨Nat.zero_le _, Nat.zero_le _⟩ ?_
            refine lv_iload_n hx hb d_M_branches_84 rfl (lv_at hl 2 rfl) ?_
            refine roSl (As := [.int x2]) (rest := [.long (mF_StepMachineModel_bare x1)]) ⟨hx, hb, hml, hown, hts⟩ (mc_StepMachineModel_bare l D tc tb z0 x2) (va_cwS 1 hts (goodS a_746 a_747 a_10 a_748) rfl rfl rfl hs_M_bare ⟨Nat.le_of_ble_eq_true rfl, Nat.le_of_ble_eq_true rfl⟩) (hP.sub [] rfl) hK hB rfl hl.1 rfl (Nat.le_of_ble_eq_true rfl) d_M_branches_85 ⟨Nat.zero_le _, Nat.zero_le _⟩ ?_
            refine W.lcmp hx hb d_M_branches_88 ?_
            refine lv_if_ge (tgt := 96) hx hb d_M_branches_89 (by decide) (fun c_89 => ?_) (fun c_89 => ?_)
            · skip
              refine lv_iconst (v := 0) hx hb d_M_branches_96 (by decide) ?_
              exact W.zret (v := 0) hx hb hr rfl (fun t ht hW => ⟨_, rfl, by rw [mF_StepMachineModel_branches, if_neg c_1_0, if_neg c_1_1, if_neg c_1_2, if_neg c_1_3, if_pos c_1_4, if_pos c_89], ht⟩) (fun q h => by cases h) d_M_branches_97
            · skip
              refine lv_iconst (v := 1) hx hb d_M_branches_92 (by decide) ?_
              refine lv_goto (tgt := 97) hx hb d_M_branches_93 (by decide) ?_
              exact W.zret (v := 1) hx hb hr rfl (fun t ht hW => ⟨_, rfl, by rw [mF_StepMachineModel_branches, if_neg c_1_0, if_neg c_1_1, if_neg c_1_2, if_neg c_1_3, if_pos c_1_4, if_neg c_89], ht⟩) (fun q h => by cases h) d_M_branches_97
          · skip
            refine lv_tableOut (tgt := 98) hx hb d_M_branches_1 (by have n_0 := lv_neT (a := 4) c_1_0 (by decide); have n_1 := lv_neT (a := 5) c_1_1 (by decide); have n_2 := lv_neT (a := 6) c_1_2 (by decide); have n_3 := lv_neT (a := 7) c_1_3 (by decide); have n_4 := lv_neT (a := 8) c_1_4 (by decide); omega) (by decide) ?_
            refine lv_iload_n hx hb d_M_branches_98 rfl (lv_at hl 1 rfl) ?_
            refine roSl (As := [.int x1]) (rest := []) ⟨hx, hb, hml, hown, hts⟩ (mc_StepMachineModel_bare l D tc tb z0 x1) (va_cwS 1 hts (goodS a_746 a_747 a_10 a_748) rfl rfl rfl hs_M_bare ⟨Nat.le_of_ble_eq_true rfl, Nat.le_of_ble_eq_true rfl⟩) (hP.sub [] rfl) hK hB rfl hl.1 rfl (Nat.le_of_ble_eq_true rfl) d_M_branches_99 ⟨Nat.zero_le _, Nat.zero_le _⟩ ?_
            refine lv_iload_n hx hb d_M_branches_102 rfl (lv_at hl 2 rfl) ?_
            refine roSl (As := [.int x2]) (rest := [.long (mF_StepMachineModel_bare x1)]) ⟨hx, hb, hml, hown, hts⟩ (mc_StepMachineModel_bare l D tc tb z0 x2) (va_cwS 1 hts (goodS a_746 a_747 a_10 a_748) rfl rfl rfl hs_M_bare ⟨Nat.le_of_ble_eq_true rfl, Nat.le_of_ble_eq_true rfl⟩) (hP.sub [] rfl) hK hB rfl hl.1 rfl (Nat.le_of_ble_eq_true rfl) d_M_branches_103 ⟨Nat.zero_le _, Nat.zero_le _⟩ ?_
            refine W.lcmp hx hb d_M_branches_106 ?_
            refine lv_if_lt (tgt := 114) hx hb d_M_branches_107 (by decide) (fun c_107 => ?_) (fun c_107 => ?_)
            · skip
              refine lv_iconst (v := 0) hx hb d_M_branches_114 (by decide) ?_
              exact W.zret (v := 0) hx hb hr rfl (fun t ht hW => ⟨_, rfl, by rw [mF_StepMachineModel_branches, if_neg c_1_0, if_neg c_1_1, if_neg c_1_2, if_neg c_1_3, if_neg c_1_4, if_pos c_107], ht⟩) (fun q h => by cases h) d_M_branches_115
            · skip
              refine lv_iconst (v := 1) hx hb d_M_branches_110 (by decide) ?_
              refine lv_goto (tgt := 115) hx hb d_M_branches_111 (by decide) ?_
              exact W.zret (v := 1) hx hb hr rfl (fun t ht hW => ⟨_, rfl, by rw [mF_StepMachineModel_branches, if_neg c_1_0, if_neg c_1_1, if_neg c_1_2, if_neg c_1_3, if_neg c_1_4, if_neg c_107], ht⟩) (fun q h => by cases h) d_M_branches_115
def mF_StepMachineModel_reckoned (x0 : Int32) (x1 : Int32) (x2 : Int32) : Int32 := (if x0 = 18 then (x1 + x2) else (if x0 = 19 then (if x2 ≤ x1 then (mF_StepMachineModel_truth 0) else (mF_StepMachineModel_truth 1)) else (if x0 = 20 then (if 0 ≤ (lg_cmp (mF_StepMachineModel_bare x1) (mF_StepMachineModel_bare x2)) then (mF_StepMachineModel_truth 0) else (mF_StepMachineModel_truth 1)) else (if x0 = 21 then (x1 ^^^ x2) else (if x0 = 22 then (x1 ||| x2) else (if x0 = 23 then (x1 &&& x2) else (if x0 = 24 then (x1 <<< ((x2 &&& 31) &&& 31)) else (if x0 = 25 then (j_ushr x1 (x2 &&& 31)) else (if x0 = 26 then (x1 >>> ((x2 &&& 31) &&& 31)) else (if x0 = 27 then (x1 + x2) else (if x0 = 28 then (x1 - x2) else (if x0 = 29 then (x1 <<< ((x2 &&& 31) &&& 31)) else (if x0 = 30 then (if x2 ≤ x1 then (mF_StepMachineModel_truth 0) else (mF_StepMachineModel_truth 1)) else (if x0 = 31 then (if 0 ≤ (lg_cmp (mF_StepMachineModel_bare x1) (mF_StepMachineModel_bare x2)) then (mF_StepMachineModel_truth 0) else (mF_StepMachineModel_truth 1)) else (if x0 = 32 then (x1 ^^^ x2) else (if x0 = 33 then (j_ushr x1 (x2 &&& 31)) else (if x0 = 34 then (x1 >>> ((x2 &&& 31) &&& 31)) else (if x0 = 35 then (x1 ||| x2) else (if x0 = 36 then (x1 &&& x2) else (mF_StepMachineModel_multiplied x0 x1 x2))))))))))))))))))))
set_option maxHeartbeats 4000000 in
set_option maxRecDepth 100000 in
theorem mc_StepMachineModel_reckoned (l : Launch) (D : va_G) (tc : Nat → ClassId) (tb : Nat → Nat) (z0 : Nat) (x0 : Int32) (x1 : Int32) (x2 : Int32) : Met l y_M_reckoned (wM y_M_reckoned b_M_reckoned 3 (some .int)) ({ frames := 2, cells := 0, slots := 0, locals := 42 }) (va_Pc [.int x0, .int x1, .int x2] (Pr D tc tb z0 [])) (vp_Si (fun r => r = (mF_StepMachineModel_reckoned x0 x1 x2))) 0 0 (fun _ => False) := by
  refine Met.ofW (cc := b_M_reckoned) (maxL := 3) (ret := (some .int)) (by decide) rfl ?_
  intro p e s m args below meth c s₁ B hml hv
  obtain ⟨rfl, hP, hK, hB⟩ := hv
  have hx := B.exec
  have hb := B.bytes
  have hr := B.returns
  have hts : ∀ w ∈ wALL, w.before _ s = true := fun w h => atoms_spec (ws := (wM y_M_reckoned b_M_reckoned 3 (some .int))) B.pre w (List.mem_cons_of_mem _ h)
  have hown : s.vm.findClass "StepMachineModel" = some m.cls := findClass_of_methodNamed B.named
  have hlocks := B.notSynchronized
  have hl := lv_entry ([.int x0, .int x1, .int x2]) (n := 3) (Nat.le_of_ble_eq_true rfl)
  rw [lg_entry_eq]
  generalize (lg_sl ([.int x0, .int x1, .int x2]) ++ List.replicate (3 - (lg_sl ([.int x0, .int x1, .int x2])).length) Slot.unset).toArray = ls at hl ⊢
  have hl : lv_has ls 3 [(0, .int x0), (1, .int x1), (2, .int x2)] := hl
  refine lv_iload_n hx hb d_M_reckoned_0 rfl (lv_at hl 0 rfl) ?_
  by_cases c_1_0 : x0 = 18
  · skip
    refine lv_tableIn (tgt := 92) hx hb d_M_reckoned_1 (by rw [c_1_0]; decide) (by rw [c_1_0]; decide) (by rw [c_1_0] <;> rfl) (by decide) ?_
    refine lv_iload_n hx hb d_M_reckoned_92 rfl (lv_at hl 1 rfl) ?_
    refine lv_iload_n hx hb d_M_reckoned_93 rfl (lv_at hl 2 rfl) ?_
    refine lv_iadd hx hb d_M_reckoned_94 ?_
    exact W.iret (v := (x1 + x2)) hx hb hr (fun t ht hW => ⟨_, rfl, by rw [mF_StepMachineModel_reckoned, if_pos c_1_0], ht⟩) (fun q h => by cases h) d_M_reckoned_95
  · skip
    by_cases c_1_1 : x0 = 19
    · skip
      refine lv_tableIn (tgt := 100) hx hb d_M_reckoned_1 (by rw [c_1_1]; decide) (by rw [c_1_1]; decide) (by rw [c_1_1] <;> rfl) (by decide) ?_
      refine lv_iload_n hx hb d_M_reckoned_100 rfl (lv_at hl 1 rfl) ?_
      refine lv_iload_n hx hb d_M_reckoned_101 rfl (lv_at hl 2 rfl) ?_
      refine lv_icmp_ge (tgt := 109) hx hb d_M_reckoned_102 (by decide) (fun c_102 => ?_) (fun c_102 => ?_)
      · skip
        refine lv_iconst (v := 0) hx hb d_M_reckoned_109 (by decide) ?_
        refine roSi (As := [.int 0]) (rest := []) ⟨hx, hb, hml, hown, hts⟩ (mc_StepMachineModel_truth l D tc tb z0 0) (va_cwS 1 hts (goodS a_863 a_864 a_10 a_865) rfl rfl rfl hs_M_truth ⟨Nat.le_of_ble_eq_true rfl, Nat.le_of_ble_eq_true rfl⟩) (hP.sub [] rfl) hK hB rfl hl.1 rfl (Nat.le_of_ble_eq_true rfl) d_M_reckoned_110 ⟨Nat.zero_le _, Nat.zero_le _⟩ ?_
        exact W.iret (v := (mF_StepMachineModel_truth 0)) hx hb hr (fun t ht hW => ⟨_, rfl, by rw [mF_StepMachineModel_reckoned, if_neg c_1_0, if_pos c_1_1, if_pos c_102], ht⟩) (fun q h => by cases h) d_M_reckoned_113
      · skip
        refine lv_iconst (v := 1) hx hb d_M_reckoned_105 (by decide) ?_
        refine lv_goto (tgt := 110) hx hb d_M_reckoned_106 (by decide) ?_
        refine roSi (As := [.int 1]) (rest := []) ⟨hx, hb, hml, hown, hts⟩ (mc_StepMachineModel_truth l D tc tb z0 1) (va_cwS 1 hts (goodS a_863 a_864 a_10 a_865) rfl rfl rfl hs_M_truth ⟨Nat.le_of_ble_eq_true rfl, Nat.le_of_ble_eq_true rfl⟩) (hP.sub [] rfl) hK hB rfl hl.1 rfl (Nat.le_of_ble_eq_true rfl) d_M_reckoned_110 ⟨Nat.zero_le _, Nat.zero_le _⟩ ?_
        exact W.iret (v := (mF_StepMachineModel_truth 1)) hx hb hr (fun t ht hW => ⟨_, rfl, by rw [mF_StepMachineModel_reckoned, if_neg c_1_0, if_pos c_1_1, if_neg c_102], ht⟩) (fun q h => by cases h) d_M_reckoned_113
    · skip
      by_cases c_1_2 : x0 = 20
      · skip
        refine lv_tableIn (tgt := 114) hx hb d_M_reckoned_1 (by rw [c_1_2]; decide) (by rw [c_1_2]; decide) (by rw [c_1_2] <;> rfl) (by decide) ?_
        refine lv_iload_n hx hb d_M_reckoned_114 rfl (lv_at hl 1 rfl) ?_
        refine roSl (As := [.int x1]) (rest := []) ⟨hx, hb, hml, hown, hts⟩ (mc_StepMachineModel_bare l D tc tb z0 x1) (va_cwS 1 hts (goodS a_746 a_747 a_10 a_748) rfl rfl rfl hs_M_bare ⟨Nat.le_of_ble_eq_true rfl, Nat.le_of_ble_eq_true rfl⟩) (hP.sub [] rfl) hK hB rfl hl.1 rfl (Nat.le_of_ble_eq_true rfl) d_M_reckoned_115 ⟨Nat.zero_le _, Nat.zero_le _⟩ ?_
        refine lv_iload_n hx hb d_M_reckoned_118 rfl (lv_at hl 2 rfl) ?_
        refine roSl (As := [.int x2]) (rest := [.long (mF_StepMachineModel_bare x1)]) ⟨hx, hb, hml, hown, hts⟩ (mc_StepMachineModel_bare l D tc tb z0 x2) (va_cwS 1 hts (goodS a_746 a_747 a_10 a_748) rfl rfl rfl hs_M_bare ⟨Nat.le_of_ble_eq_true rfl, Nat.le_of_ble_eq_true rfl⟩) (hP.sub [] rfl) hK hB rfl hl.1 rfl (Nat.le_of_ble_eq_true rfl) d_M_reckoned_119 ⟨Nat.zero_le _, Nat.zero_le _⟩ ?_
        refine W.lcmp hx hb d_M_reckoned_122 ?_
        refine lv_if_ge (tgt := 130) hx hb d_M_reckoned_123 (by decide) (fun c_123 => ?_) (fun c_123 => ?_)
        · skip
          refine lv_iconst (v := 0) hx hb d_M_reckoned_130 (by decide) ?_
          refine roSi (As := [.int 0]) (rest := []) ⟨hx, hb, hml, hown, hts⟩ (mc_StepMachineModel_truth l D tc tb z0 0) (va_cwS 1 hts (goodS a_863 a_864 a_10 a_865) rfl rfl rfl hs_M_truth ⟨Nat.le_of_ble_eq_true rfl, Nat.le_of_ble_eq_true rfl⟩) (hP.sub [] rfl) hK hB rfl hl.1 rfl (Nat.le_of_ble_eq_true rfl) d_M_reckoned_131 ⟨Nat.zero_le _, Nat.zero_le _⟩ ?_
          exact W.iret (v := (mF_StepMachineModel_truth 0)) hx hb hr (fun t ht hW => ⟨_, rfl, by rw [mF_StepMachineModel_reckoned, if_neg c_1_0, if_neg c_1_1, if_pos c_1_2, if_pos c_123], ht⟩) (fun q h => by cases h) d_M_reckoned_134
        · skip
          refine lv_iconst (v := 1) hx hb d_M_reckoned_126 (by decide) ?_
          refine lv_goto (tgt := 131) hx hb d_M_reckoned_127 (by decide) ?_
          refine roSi (As := [.int 1]) (rest := []) ⟨hx, hb, hml, hown, hts⟩ (mc_StepMachineModel_truth l D tc tb z0 1) (va_cwS 1 hts (goodS a_863 a_864 a_10 a_865) rfl rfl rfl hs_M_truth ⟨Nat.le_of_ble_eq_true rfl, Nat.le_of_ble_eq_true rfl⟩) (hP.sub [] rfl) hK hB rfl hl.1 rfl (Nat.le_of_ble_eq_true rfl) d_M_reckoned_131 ⟨Nat.zero_le _, Nat.zero_le _⟩ ?_
          exact W.iret (v := (mF_StepMachineModel_truth 1)) hx hb hr (fun t ht hW => ⟨_, rfl, by rw [mF_StepMachineModel_reckoned, if_neg c_1_0, if_neg c_1_1, if_pos c_1_2, if_neg c_123], ht⟩) (fun q h => by cases h) d_M_reckoned_134
      · skip
        by_cases c_1_3 : x0 = 21
        · skip
          refine lv_tableIn (tgt := 135) hx hb d_M_reckoned_1 (by rw [c_1_3]; decide) (by rw [c_1_3]; decide) (by rw [c_1_3] <;> rfl) (by decide) ?_
          refine lv_iload_n hx hb d_M_reckoned_135 rfl (lv_at hl 1 rfl) ?_
          refine lv_iload_n hx hb d_M_reckoned_136 rfl (lv_at hl 2 rfl) ?_
          refine lv_ixor hx hb d_M_reckoned_137 ?_
          exact W.iret (v := (x1 ^^^ x2)) hx hb hr (fun t ht hW => ⟨_, rfl, by rw [mF_StepMachineModel_reckoned, if_neg c_1_0, if_neg c_1_1, if_neg c_1_2, if_pos c_1_3], ht⟩) (fun q h => by cases h) d_M_reckoned_138
        · skip
          by_cases c_1_4 : x0 = 22
          · skip
            refine lv_tableIn (tgt := 139) hx hb d_M_reckoned_1 (by rw [c_1_4]; decide) (by rw [c_1_4]; decide) (by rw [c_1_4] <;> rfl) (by decide) ?_
            refine lv_iload_n hx hb d_M_reckoned_139 rfl (lv_at hl 1 rfl) ?_
            refine lv_iload_n hx hb d_M_reckoned_140 rfl (lv_at hl 2 rfl) ?_
            refine lv_ior hx hb d_M_reckoned_141 ?_
            exact W.iret (v := (x1 ||| x2)) hx hb hr (fun t ht hW => ⟨_, rfl, by rw [mF_StepMachineModel_reckoned, if_neg c_1_0, if_neg c_1_1, if_neg c_1_2, if_neg c_1_3, if_pos c_1_4], ht⟩) (fun q h => by cases h) d_M_reckoned_142
          · skip
            by_cases c_1_5 : x0 = 23
            · skip
              refine lv_tableIn (tgt := 143) hx hb d_M_reckoned_1 (by rw [c_1_5]; decide) (by rw [c_1_5]; decide) (by rw [c_1_5] <;> rfl) (by decide) ?_
              refine lv_iload_n hx hb d_M_reckoned_143 rfl (lv_at hl 1 rfl) ?_
              refine lv_iload_n hx hb d_M_reckoned_144 rfl (lv_at hl 2 rfl) ?_
              refine lv_iand hx hb d_M_reckoned_145 ?_
              exact W.iret (v := (x1 &&& x2)) hx hb hr (fun t ht hW => ⟨_, rfl, by rw [mF_StepMachineModel_reckoned, if_neg c_1_0, if_neg c_1_1, if_neg c_1_2, if_neg c_1_3, if_neg c_1_4, if_pos c_1_5], ht⟩) (fun q h => by cases h) d_M_reckoned_146
            · skip
              by_cases c_1_6 : x0 = 24
              · skip
                refine lv_tableIn (tgt := 147) hx hb d_M_reckoned_1 (by rw [c_1_6]; decide) (by rw [c_1_6]; decide) (by rw [c_1_6] <;> rfl) (by decide) ?_
                refine lv_iload_n hx hb d_M_reckoned_147 rfl (lv_at hl 1 rfl) ?_
                refine lv_iload_n hx hb d_M_reckoned_148 rfl (lv_at hl 2 rfl) ?_
                refine lv_bipush (v := 31) hx hb d_M_reckoned_149 (by decide) ?_
                refine lv_iand hx hb d_M_reckoned_151 ?_
                refine lv_ishl hx hb d_M_reckoned_152 ?_
                exact W.iret (v := (x1 <<< ((x2 &&& 31) &&& 31))) hx hb hr (fun t ht hW => ⟨_, rfl, by rw [mF_StepMachineModel_reckoned, if_neg c_1_0, if_neg c_1_1, if_neg c_1_2, if_neg c_1_3, if_neg c_1_4, if_neg c_1_5, if_pos c_1_6], ht⟩) (fun q h => by cases h) d_M_reckoned_153
              · skip
                by_cases c_1_7 : x0 = 25
                · skip
                  refine lv_tableIn (tgt := 154) hx hb d_M_reckoned_1 (by rw [c_1_7]; decide) (by rw [c_1_7]; decide) (by rw [c_1_7] <;> rfl) (by decide) ?_
                  refine lv_iload_n hx hb d_M_reckoned_154 rfl (lv_at hl 1 rfl) ?_
                  refine lv_iload_n hx hb d_M_reckoned_155 rfl (lv_at hl 2 rfl) ?_
                  refine lv_bipush (v := 31) hx hb d_M_reckoned_156 (by decide) ?_
                  refine lv_iand hx hb d_M_reckoned_158 ?_
                  refine lv_iushr (v := (j_ushr x1 (x2 &&& 31))) hx hb d_M_reckoned_159 rfl ?_
                  exact W.iret (v := (j_ushr x1 (x2 &&& 31))) hx hb hr (fun t ht hW => ⟨_, rfl, by rw [mF_StepMachineModel_reckoned, if_neg c_1_0, if_neg c_1_1, if_neg c_1_2, if_neg c_1_3, if_neg c_1_4, if_neg c_1_5, if_neg c_1_6, if_pos c_1_7], ht⟩) (fun q h => by cases h) d_M_reckoned_160
                · skip
                  by_cases c_1_8 : x0 = 26
                  · skip
                    refine lv_tableIn (tgt := 161) hx hb d_M_reckoned_1 (by rw [c_1_8]; decide) (by rw [c_1_8]; decide) (by rw [c_1_8] <;> rfl) (by decide) ?_
                    refine lv_iload_n hx hb d_M_reckoned_161 rfl (lv_at hl 1 rfl) ?_
                    refine lv_iload_n hx hb d_M_reckoned_162 rfl (lv_at hl 2 rfl) ?_
                    refine lv_bipush (v := 31) hx hb d_M_reckoned_163 (by decide) ?_
                    refine lv_iand hx hb d_M_reckoned_165 ?_
                    refine lv_ishr hx hb d_M_reckoned_166 ?_
                    exact W.iret (v := (x1 >>> ((x2 &&& 31) &&& 31))) hx hb hr (fun t ht hW => ⟨_, rfl, by rw [mF_StepMachineModel_reckoned, if_neg c_1_0, if_neg c_1_1, if_neg c_1_2, if_neg c_1_3, if_neg c_1_4, if_neg c_1_5, if_neg c_1_6, if_neg c_1_7, if_pos c_1_8], ht⟩) (fun q h => by cases h) d_M_reckoned_167
                  · skip
                    by_cases c_1_9 : x0 = 27
                    · skip
                      refine lv_tableIn (tgt := 92) hx hb d_M_reckoned_1 (by rw [c_1_9]; decide) (by rw [c_1_9]; decide) (by rw [c_1_9] <;> rfl) (by decide) ?_
                      refine lv_iload_n hx hb d_M_reckoned_92 rfl (lv_at hl 1 rfl) ?_
                      refine lv_iload_n hx hb d_M_reckoned_93 rfl (lv_at hl 2 rfl) ?_
                      refine lv_iadd hx hb d_M_reckoned_94 ?_
                      exact W.iret (v := (x1 + x2)) hx hb hr (fun t ht hW => ⟨_, rfl, by rw [mF_StepMachineModel_reckoned, if_neg c_1_0, if_neg c_1_1, if_neg c_1_2, if_neg c_1_3, if_neg c_1_4, if_neg c_1_5, if_neg c_1_6, if_neg c_1_7, if_neg c_1_8, if_pos c_1_9], ht⟩) (fun q h => by cases h) d_M_reckoned_95
                    · skip
                      by_cases c_1_10 : x0 = 28
                      · skip
                        refine lv_tableIn (tgt := 96) hx hb d_M_reckoned_1 (by rw [c_1_10]; decide) (by rw [c_1_10]; decide) (by rw [c_1_10] <;> rfl) (by decide) ?_
                        refine lv_iload_n hx hb d_M_reckoned_96 rfl (lv_at hl 1 rfl) ?_
                        refine lv_iload_n hx hb d_M_reckoned_97 rfl (lv_at hl 2 rfl) ?_
                        refine lv_isub hx hb d_M_reckoned_98 ?_
                        exact W.iret (v := (x1 - x2)) hx hb hr (fun t ht hW => ⟨_, rfl, by rw [mF_StepMachineModel_reckoned, if_neg c_1_0, if_neg c_1_1, if_neg c_1_2, if_neg c_1_3, if_neg c_1_4, if_neg c_1_5, if_neg c_1_6, if_neg c_1_7, if_neg c_1_8, if_neg c_1_9, if_pos c_1_10], ht⟩) (fun q h => by cases h) d_M_reckoned_99
                      · skip
                        by_cases c_1_11 : x0 = 29
                        · skip
                          refine lv_tableIn (tgt := 147) hx hb d_M_reckoned_1 (by rw [c_1_11]; decide) (by rw [c_1_11]; decide) (by rw [c_1_11] <;> rfl) (by decide) ?_
                          refine lv_iload_n hx hb d_M_reckoned_147 rfl (lv_at hl 1 rfl) ?_
                          refine lv_iload_n hx hb d_M_reckoned_148 rfl (lv_at hl 2 rfl) ?_
                          refine lv_bipush (v := 31) hx hb d_M_reckoned_149 (by decide) ?_
                          refine lv_iand hx hb d_M_reckoned_151 ?_
                          refine lv_ishl hx hb d_M_reckoned_152 ?_
                          exact W.iret (v := (x1 <<< ((x2 &&& 31) &&& 31))) hx hb hr (fun t ht hW => ⟨_, rfl, by rw [mF_StepMachineModel_reckoned, if_neg c_1_0, if_neg c_1_1, if_neg c_1_2, if_neg c_1_3, if_neg c_1_4, if_neg c_1_5, if_neg c_1_6, if_neg c_1_7, if_neg c_1_8, if_neg c_1_9, if_neg c_1_10, if_pos c_1_11], ht⟩) (fun q h => by cases h) d_M_reckoned_153
                        · skip
                          by_cases c_1_12 : x0 = 30
                          · skip
                            refine lv_tableIn (tgt := 100) hx hb d_M_reckoned_1 (by rw [c_1_12]; decide) (by rw [c_1_12]; decide) (by rw [c_1_12] <;> rfl) (by decide) ?_
                            refine lv_iload_n hx hb d_M_reckoned_100 rfl (lv_at hl 1 rfl) ?_
                            refine lv_iload_n hx hb d_M_reckoned_101 rfl (lv_at hl 2 rfl) ?_
                            refine lv_icmp_ge (tgt := 109) hx hb d_M_reckoned_102 (by decide) (fun c_102 => ?_) (fun c_102 => ?_)
                            · skip
                              refine lv_iconst (v := 0) hx hb d_M_reckoned_109 (by decide) ?_
                              refine roSi (As := [.int 0]) (rest := []) ⟨hx, hb, hml, hown, hts⟩ (mc_StepMachineModel_truth l D tc tb z0 0) (va_cwS 1 hts (goodS a_863 a_864 a_10 a_865) rfl rfl rfl hs_M_truth ⟨Nat.le_of_ble_eq_true rfl, Nat.le_of_ble_eq_true rfl⟩) (hP.sub [] rfl) hK hB rfl hl.1 rfl (Nat.le_of_ble_eq_true rfl) d_M_reckoned_110 ⟨Nat.zero_le _, Nat.zero_le _⟩ ?_
                              exact W.iret (v := (mF_StepMachineModel_truth 0)) hx hb hr (fun t ht hW => ⟨_, rfl, by rw [mF_StepMachineModel_reckoned, if_neg c_1_0, if_neg c_1_1, if_neg c_1_2, if_neg c_1_3, if_neg c_1_4, if_neg c_1_5, if_neg c_1_6, if_neg c_1_7, if_neg c_1_8, if_neg c_1_9, if_neg c_1_10, if_neg c_1_11, if_pos c_1_12, if_pos c_102], ht⟩) (fun q h => by cases h) d_M_reckoned_113
                            · skip
                              refine lv_iconst (v := 1) hx hb d_M_reckoned_105 (by decide) ?_
                              refine lv_goto (tgt := 110) hx hb d_M_reckoned_106 (by decide) ?_
                              refine roSi (As := [.int 1]) (rest := []) ⟨hx, hb, hml, hown, hts⟩ (mc_StepMachineModel_truth l D tc tb z0 1) (va_cwS 1 hts (goodS a_863 a_864 a_10 a_865) rfl rfl rfl hs_M_truth ⟨Nat.le_of_ble_eq_true rfl, Nat.le_of_ble_eq_true rfl⟩) (hP.sub [] rfl) hK hB rfl hl.1 rfl (Nat.le_of_ble_eq_true rfl) d_M_reckoned_110 ⟨Nat.zero_le _, Nat.zero_le _⟩ ?_
                              exact W.iret (v := (mF_StepMachineModel_truth 1)) hx hb hr (fun t ht hW => ⟨_, rfl, by rw [mF_StepMachineModel_reckoned, if_neg c_1_0, if_neg c_1_1, if_neg c_1_2, if_neg c_1_3, if_neg c_1_4, if_neg c_1_5, if_neg c_1_6, if_neg c_1_7, if_neg c_1_8, if_neg c_1_9, if_neg c_1_10, if_neg c_1_11, if_pos c_1_12, if_neg c_102], ht⟩) (fun q h => by cases h) d_M_reckoned_113
                          · skip
                            by_cases c_1_13 : x0 = 31
                            · skip
                              refine lv_tableIn (tgt := 114) hx hb d_M_reckoned_1 (by rw [c_1_13]; decide) (by rw [c_1_13]; decide) (by rw [c_1_13] <;> rfl) (by decide) ?_
                              refine lv_iload_n hx hb d_M_reckoned_114 rfl (lv_at hl 1 rfl) ?_
                              refine roSl (As := [.int x1]) (rest := []) ⟨hx, hb, hml, hown, hts⟩ (mc_StepMachineModel_bare l D tc tb z0 x1) (va_cwS 1 hts (goodS a_746 a_747 a_10 a_748) rfl rfl rfl hs_M_bare ⟨Nat.le_of_ble_eq_true rfl, Nat.le_of_ble_eq_true rfl⟩) (hP.sub [] rfl) hK hB rfl hl.1 rfl (Nat.le_of_ble_eq_true rfl) d_M_reckoned_115 ⟨Nat.zero_le _, Nat.zero_le _⟩ ?_
                              refine lv_iload_n hx hb d_M_reckoned_118 rfl (lv_at hl 2 rfl) ?_
                              refine roSl (As := [.int x2]) (rest := [.long (mF_StepMachineModel_bare x1)]) ⟨hx, hb, hml, hown, hts⟩ (mc_StepMachineModel_bare l D tc tb z0 x2) (va_cwS 1 hts (goodS a_746 a_747 a_10 a_748) rfl rfl rfl hs_M_bare ⟨Nat.le_of_ble_eq_true rfl, Nat.le_of_ble_eq_true rfl⟩) (hP.sub [] rfl) hK hB rfl hl.1 rfl (Nat.le_of_ble_eq_true rfl) d_M_reckoned_119 ⟨Nat.zero_le _, Nat.zero_le _⟩ ?_
                              refine W.lcmp hx hb d_M_reckoned_122 ?_
                              refine lv_if_ge (tgt := 130) hx hb d_M_reckoned_123 (by decide) (fun c_123 => ?_) (fun c_123 => ?_)
                              · skip
                                refine lv_iconst (v := 0) hx hb d_M_reckoned_130 (by decide) ?_
                                refine roSi (As := [.int 0]) (rest := []) ⟨hx, hb, hml, hown, hts⟩ (mc_StepMachineModel_truth l D tc tb z0 0) (va_cwS 1 hts (goodS a_863 a_864 a_10 a_865) rfl rfl rfl hs_M_truth ⟨Nat.le_of_ble_eq_true rfl, Nat.le_of_ble_eq_true rfl⟩) (hP.sub [] rfl) hK hB rfl hl.1 rfl (Nat.le_of_ble_eq_true rfl) d_M_reckoned_131 ⟨Nat.zero_le _, Nat.zero_le _⟩ ?_
                                exact W.iret (v := (mF_StepMachineModel_truth 0)) hx hb hr (fun t ht hW => ⟨_, rfl, by rw [mF_StepMachineModel_reckoned, if_neg c_1_0, if_neg c_1_1, if_neg c_1_2, if_neg c_1_3, if_neg c_1_4, if_neg c_1_5, if_neg c_1_6, if_neg c_1_7, if_neg c_1_8, if_neg c_1_9, if_neg c_1_10, if_neg c_1_11, if_neg c_1_12, if_pos c_1_13, if_pos c_123], ht⟩) (fun q h => by cases h) d_M_reckoned_134
                              · skip
                                refine lv_iconst (v := 1) hx hb d_M_reckoned_126 (by decide) ?_
                                refine lv_goto (tgt := 131) hx hb d_M_reckoned_127 (by decide) ?_
                                refine roSi (As := [.int 1]) (rest := []) ⟨hx, hb, hml, hown, hts⟩ (mc_StepMachineModel_truth l D tc tb z0 1) (va_cwS 1 hts (goodS a_863 a_864 a_10 a_865) rfl rfl rfl hs_M_truth ⟨Nat.le_of_ble_eq_true rfl, Nat.le_of_ble_eq_true rfl⟩) (hP.sub [] rfl) hK hB rfl hl.1 rfl (Nat.le_of_ble_eq_true rfl) d_M_reckoned_131 ⟨Nat.zero_le _, Nat.zero_le _⟩ ?_
                                exact W.iret (v := (mF_StepMachineModel_truth 1)) hx hb hr (fun t ht hW => ⟨_, rfl, by rw [mF_StepMachineModel_reckoned, if_neg c_1_0, if_neg c_1_1, if_neg c_1_2, if_neg c_1_3, if_neg c_1_4, if_neg c_1_5, if_neg c_1_6, if_neg c_1_7, if_neg c_1_8, if_neg c_1_9, if_neg c_1_10, if_neg c_1_11, if_neg c_1_12, if_pos c_1_13, if_neg c_123], ht⟩) (fun q h => by cases h) d_M_reckoned_134
                            · skip
                              by_cases c_1_14 : x0 = 32
                              · skip
                                refine lv_tableIn (tgt := 135) hx hb d_M_reckoned_1 (by rw [c_1_14]; decide) (by rw [c_1_14]; decide) (by rw [c_1_14] <;> rfl) (by decide) ?_
                                refine lv_iload_n hx hb d_M_reckoned_135 rfl (lv_at hl 1 rfl) ?_
                                refine lv_iload_n hx hb d_M_reckoned_136 rfl (lv_at hl 2 rfl) ?_
                                refine lv_ixor hx hb d_M_reckoned_137 ?_
                                exact W.iret (v := (x1 ^^^ x2)) hx hb hr (fun t ht hW => ⟨_, rfl, by rw [mF_StepMachineModel_reckoned, if_neg c_1_0, if_neg c_1_1, if_neg c_1_2, if_neg c_1_3, if_neg c_1_4, if_neg c_1_5, if_neg c_1_6, if_neg c_1_7, if_neg c_1_8, if_neg c_1_9, if_neg c_1_10, if_neg c_1_11, if_neg c_1_12, if_neg c_1_13, if_pos c_1_14], ht⟩) (fun q h => by cases h) d_M_reckoned_138
                              · skip
                                by_cases c_1_15 : x0 = 33
                                · skip
                                  refine lv_tableIn (tgt := 154) hx hb d_M_reckoned_1 (by rw [c_1_15]; decide) (by rw [c_1_15]; decide) (by rw [c_1_15] <;> rfl) (by decide) ?_
                                  refine lv_iload_n hx hb d_M_reckoned_154 rfl (lv_at hl 1 rfl) ?_
                                  refine lv_iload_n hx hb d_M_reckoned_155 rfl (lv_at hl 2 rfl) ?_
                                  refine lv_bipush (v := 31) hx hb d_M_reckoned_156 (by decide) ?_
                                  refine lv_iand hx hb d_M_reckoned_158 ?_
                                  refine lv_iushr (v := (j_ushr x1 (x2 &&& 31))) hx hb d_M_reckoned_159 rfl ?_
                                  exact W.iret (v := (j_ushr x1 (x2 &&& 31))) hx hb hr (fun t ht hW => ⟨_, rfl, by rw [mF_StepMachineModel_reckoned, if_neg c_1_0, if_neg c_1_1, if_neg c_1_2, if_neg c_1_3, if_neg c_1_4, if_neg c_1_5, if_neg c_1_6, if_neg c_1_7, if_neg c_1_8, if_neg c_1_9, if_neg c_1_10, if_neg c_1_11, if_neg c_1_12, if_neg c_1_13, if_neg c_1_14, if_pos c_1_15], ht⟩) (fun q h => by cases h) d_M_reckoned_160
                                · skip
                                  by_cases c_1_16 : x0 = 34
                                  · skip
                                    refine lv_tableIn (tgt := 161) hx hb d_M_reckoned_1 (by rw [c_1_16]; decide) (by rw [c_1_16]; decide) (by rw [c_1_16] <;> rfl) (by decide) ?_
                                    refine lv_iload_n hx hb d_M_reckoned_161 rfl (lv_at hl 1 rfl) ?_
                                    refine lv_iload_n hx hb d_M_reckoned_162 rfl (lv_at hl 2 rfl) ?_
                                    refine lv_bipush (v := 31) hx hb d_M_reckoned_163 (by decide) ?_
                                    refine lv_iand hx hb d_M_reckoned_165 ?_
                                    refine lv_ishr hx hb d_M_reckoned_166 ?_
                                    exact W.iret (v := (x1 >>> ((x2 &&& 31) &&& 31))) hx hb hr (fun t ht hW => ⟨_, rfl, by rw [mF_StepMachineModel_reckoned, if_neg c_1_0, if_neg c_1_1, if_neg c_1_2, if_neg c_1_3, if_neg c_1_4, if_neg c_1_5, if_neg c_1_6, if_neg c_1_7, if_neg c_1_8, if_neg c_1_9, if_neg c_1_10, if_neg c_1_11, if_neg c_1_12, if_neg c_1_13, if_neg c_1_14, if_neg c_1_15, if_pos c_1_16], ht⟩) (fun q h => by cases h) d_M_reckoned_167
                                  · skip
                                    by_cases c_1_17 : x0 = 35
                                    · skip
                                      refine lv_tableIn (tgt := 139) hx hb d_M_reckoned_1 (by rw [c_1_17]; decide) (by rw [c_1_17]; decide) (by rw [c_1_17] <;> rfl) (by decide) ?_
                                      refine lv_iload_n hx hb d_M_reckoned_139 rfl (lv_at hl 1 rfl) ?_
                                      refine lv_iload_n hx hb d_M_reckoned_140 rfl (lv_at hl 2 rfl) ?_
                                      refine lv_ior hx hb d_M_reckoned_141 ?_
                                      exact W.iret (v := (x1 ||| x2)) hx hb hr (fun t ht hW => ⟨_, rfl, by rw [mF_StepMachineModel_reckoned, if_neg c_1_0, if_neg c_1_1, if_neg c_1_2, if_neg c_1_3, if_neg c_1_4, if_neg c_1_5, if_neg c_1_6, if_neg c_1_7, if_neg c_1_8, if_neg c_1_9, if_neg c_1_10, if_neg c_1_11, if_neg c_1_12, if_neg c_1_13, if_neg c_1_14, if_neg c_1_15, if_neg c_1_16, if_pos c_1_17], ht⟩) (fun q h => by cases h) d_M_reckoned_142
                                    · skip
                                      by_cases c_1_18 : x0 = 36
                                      · skip
                                        refine lv_tableIn (tgt := 143) hx hb d_M_reckoned_1 (by rw [c_1_18]; decide) (by rw [c_1_18]; decide) (by rw [c_1_18] <;> rfl) (by decide) ?_
                                        refine lv_iload_n hx hb d_M_reckoned_143 rfl (lv_at hl 1 rfl) ?_
                                        refine lv_iload_n hx hb d_M_reckoned_144 rfl (lv_at hl 2 rfl) ?_
                                        refine lv_iand hx hb d_M_reckoned_145 ?_
                                        exact W.iret (v := (x1 &&& x2)) hx hb hr (fun t ht hW => ⟨_, rfl, by rw [mF_StepMachineModel_reckoned, if_neg c_1_0, if_neg c_1_1, if_neg c_1_2, if_neg c_1_3, if_neg c_1_4, if_neg c_1_5, if_neg c_1_6, if_neg c_1_7, if_neg c_1_8, if_neg c_1_9, if_neg c_1_10, if_neg c_1_11, if_neg c_1_12, if_neg c_1_13, if_neg c_1_14, if_neg c_1_15, if_neg c_1_16, if_neg c_1_17, if_pos c_1_18], ht⟩) (fun q h => by cases h) d_M_reckoned_146
                                      · skip
                                        refine lv_tableOut (tgt := 168) hx hb d_M_reckoned_1 (by have n_0 := lv_neT (a := 18) c_1_0 (by decide); have n_1 := lv_neT (a := 19) c_1_1 (by decide); have n_2 := lv_neT (a := 20) c_1_2 (by decide); have n_3 := lv_neT (a := 21) c_1_3 (by decide); have n_4 := lv_neT (a := 22) c_1_4 (by decide); have n_5 := lv_neT (a := 23) c_1_5 (by decide); have n_6 := lv_neT (a := 24) c_1_6 (by decide); have n_7 := lv_neT (a := 25) c_1_7 (by decide); have n_8 := lv_neT (a := 26) c_1_8 (by decide); have n_9 := lv_neT (a := 27) c_1_9 (by decide); have n_10 := lv_neT (a := 28) c_1_10 (by decide); have n_11 := lv_neT (a := 29) c_1_11 (by decide); have n_12 := lv_neT (a := 30) c_1_12 (by decide); have n_13 := lv_neT (a := 31) c_1_13 (by decide); have n_14 := lv_neT (a := 32) c_1_14 (by decide); have n_15 := lv_neT (a := 33) c_1_15 (by decide); have n_16 := lv_neT (a := 34) c_1_16 (by decide); have n_17 := lv_neT (a := 35) c_1_17 (by decide); have n_18 := lv_neT (a := 36) c_1_18 (by decide); omega) (by decide) ?_
                                        refine lv_iload_n hx hb d_M_reckoned_168 rfl (lv_at hl 0 rfl) ?_
                                        refine lv_iload_n hx hb d_M_reckoned_169 rfl (lv_at hl 1 rfl) ?_
                                        refine lv_iload_n hx hb d_M_reckoned_170 rfl (lv_at hl 2 rfl) ?_
                                        refine roSi (As := [.int x0, .int x1, .int x2]) (rest := []) ⟨hx, hb, hml, hown, hts⟩ (mc_StepMachineModel_multiplied l D tc tb z0 x0 x1 x2) (va_cwS 3 hts (goodS a_866 a_867 a_10 a_868) rfl rfl rfl hs_M_multiplied ⟨Nat.le_of_ble_eq_true rfl, Nat.le_of_ble_eq_true rfl⟩) (hP.sub [] rfl) hK hB rfl hl.1 rfl (Nat.le_of_ble_eq_true rfl) d_M_reckoned_171 ⟨Nat.zero_le _, Nat.zero_le _⟩ ?_
                                        exact W.iret (v := (mF_StepMachineModel_multiplied x0 x1 x2)) hx hb hr (fun t ht hW => ⟨_, rfl, by rw [mF_StepMachineModel_reckoned, if_neg c_1_0, if_neg c_1_1, if_neg c_1_2, if_neg c_1_3, if_neg c_1_4, if_neg c_1_5, if_neg c_1_6, if_neg c_1_7, if_neg c_1_8, if_neg c_1_9, if_neg c_1_10, if_neg c_1_11, if_neg c_1_12, if_neg c_1_13, if_neg c_1_14, if_neg c_1_15, if_neg c_1_16, if_neg c_1_17, if_neg c_1_18], ht⟩) (fun q h => by cases h) d_M_reckoned_174
def mF_StepMachineModel_latest (m_kn : Int32) : Int32 := (13 * (((m_kn + 100) - 1) - ((m_kn + 100) - 1) / 100 * 100))
set_option maxHeartbeats 4000000 in
set_option maxRecDepth 100000 in
theorem mc_StepMachineModel_latest (l : Launch) (D : va_G) (tc : Nat → ClassId) (tb : Nat → Nat) (z0 : Nat) (b_x b_row b_part b_mem b_mrk b_sf b_ss b_sr b_h b_r b_in b_out b_k : Nat) (m_on : Int32) (m_hc : Int32) (m_pc : Int32) (m_giv : Int32) (m_tak : Int32) (m_put : Int32) (m_st : Int32) (m_cu : Int32) (m_va : Int32) (m_sp : Int32) (m_un : Int32) (m_kc : Int32) (m_kn : Int32) (m_by : Int32) (m_kd : Int32) (m_tg : Int32) (m_ju : Int32) : Met l y_M_latest (wM y_M_latest b_M_latest 1 (some .int)) ({ frames := 0, cells := 0, slots := 0, locals := 0 }) (va_Pc [.ref b_x] (Pr D tc tb z0 [(b_x, .inr (9, [.ref b_row, .ref b_part, .ref b_mem, .ref b_mrk, .ref b_sf, .ref b_ss, .ref b_sr, .int m_on, .ref b_h, .int m_hc, .ref b_r, .int m_pc, .ref b_in, .int m_giv, .int m_tak, .ref b_out, .int m_put, .int m_st, .int m_cu, .int m_va, .int m_sp, .int m_un, .ref b_k, .int m_kc, .int m_kn, .int m_by, .int m_kd, .int m_tg, .int m_ju]))])) (vp_Si (fun r => r = (mF_StepMachineModel_latest m_kn))) 0 0 (fun _ => False) := by
  refine Met.ofW (cc := b_M_latest) (maxL := 1) (ret := (some .int)) (by decide) rfl ?_
  intro p e s m args below meth c s₁ B hml hv
  obtain ⟨rfl, hP, hK, hB⟩ := hv
  have hx := B.exec
  have hb := B.bytes
  have hr := B.returns
  have hts : ∀ w ∈ wALL, w.before _ s = true := fun w h => atoms_spec (ws := (wM y_M_latest b_M_latest 1 (some .int))) B.pre w (List.mem_cons_of_mem _ h)
  have hown : s.vm.findClass "StepMachineModel" = some m.cls := findClass_of_methodNamed B.named
  have hlocks := B.notSynchronized
  have hl := lv_entry ([.ref b_x]) (n := 1) (Nat.le_of_ble_eq_true rfl)
  rw [lg_entry_eq]
  generalize (lg_sl ([.ref b_x]) ++ List.replicate (1 - (lg_sl ([.ref b_x])).length) Slot.unset).toArray = ls at hl ⊢
  have hl : lv_has ls 1 [(0, .ref b_x)] := hl
  refine lv_bipush (v := 13) hx hb d_M_latest_0 (by decide) ?_
  refine lv_aload_n hx hb d_M_latest_2 rfl (lv_at hl 0 rfl) ?_
  refine va_get (D := D) (ci := 9) (v := .int m_kn) (C := "StepMachineModel") (T := TX9) (N := 29) hx hb hts inU_9 hown hK hP 0 rfl rfl 24 (by decide) (hts _ a_657) (fun _ h9 => h9) rfl d_M_latest_3 ?_
  refine lv_bipush (v := 100) hx hb d_M_latest_6 (by decide) ?_
  refine lv_iadd hx hb d_M_latest_8 ?_
  refine lv_iconst (v := 1) hx hb d_M_latest_9 (by decide) ?_
  refine lv_isub hx hb d_M_latest_10 ?_
  refine lv_bipush (v := 100) hx hb d_M_latest_11 (by decide) ?_
  refine lv_irem hx hb d_M_latest_13 (by decide) ?_
  refine lv_imul hx hb d_M_latest_14 ?_
  exact W.iret (v := (13 * (((m_kn + 100) - 1) - ((m_kn + 100) - 1) / 100 * 100))) hx hb hr (fun t ht hW => ⟨_, rfl, by rw [mF_StepMachineModel_latest], ht⟩) (fun q h => by cases h) d_M_latest_15
def mF_StepMachineModel_widthOf (x0 : Int32) : Int32 := (if x0 = 10 then 1 else (if x0 = 13 then 1 else (if x0 = 15 then 1 else (if x0 = 11 then 2 else (if x0 = 14 then 2 else (if x0 = 16 then 2 else 4))))))
set_option maxHeartbeats 4000000 in
set_option maxRecDepth 100000 in
theorem mc_StepMachineModel_widthOf (l : Launch) (D : va_G) (tc : Nat → ClassId) (tb : Nat → Nat) (z0 : Nat) (b_x b_row b_part b_mem b_mrk b_sf b_ss b_sr b_h b_r b_in b_out b_k : Nat) (m_on : Int32) (m_hc : Int32) (m_pc : Int32) (m_giv : Int32) (m_tak : Int32) (m_put : Int32) (m_st : Int32) (m_cu : Int32) (m_va : Int32) (m_sp : Int32) (m_un : Int32) (m_kc : Int32) (m_kn : Int32) (m_by : Int32) (m_kd : Int32) (m_tg : Int32) (m_ju : Int32) (x0 : Int32) : Met l y_M_widthOf (wM y_M_widthOf b_M_widthOf 2 (some .int)) ({ frames := 0, cells := 0, slots := 0, locals := 0 }) (va_Pc [.ref b_x, .int x0] (Pr D tc tb z0 [(b_x, .inr (9, [.ref b_row, .ref b_part, .ref b_mem, .ref b_mrk, .ref b_sf, .ref b_ss, .ref b_sr, .int m_on, .ref b_h, .int m_hc, .ref b_r, .int m_pc, .ref b_in, .int m_giv, .int m_tak, .ref b_out, .int m_put, .int m_st, .int m_cu, .int m_va, .int m_sp, .int m_un, .ref b_k, .int m_kc, .int m_kn, .int m_by, .int m_kd, .int m_tg, .int m_ju]))])) (vp_Si (fun r => r = (mF_StepMachineModel_widthOf x0))) 0 0 (fun _ => False) := by
  refine Met.ofW (cc := b_M_widthOf) (maxL := 2) (ret := (some .int)) (by decide) rfl ?_
  intro p e s m args below meth c s₁ B hml hv
  obtain ⟨rfl, hP, hK, hB⟩ := hv
  have hx := B.exec
  have hb := B.bytes
  have hr := B.returns
  have hts : ∀ w ∈ wALL, w.before _ s = true := fun w h => atoms_spec (ws := (wM y_M_widthOf b_M_widthOf 2 (some .int))) B.pre w (List.mem_cons_of_mem _ h)
  have hown : s.vm.findClass "StepMachineModel" = some m.cls := findClass_of_methodNamed B.named
  have hlocks := B.notSynchronized
  have hl := lv_entry ([.ref b_x, .int x0]) (n := 2) (Nat.le_of_ble_eq_true rfl)
  rw [lg_entry_eq]
  generalize (lg_sl ([.ref b_x, .int x0]) ++ List.replicate (2 - (lg_sl ([.ref b_x, .int x0])).length) Slot.unset).toArray = ls at hl ⊢
  have hl : lv_has ls 2 [(0, .ref b_x), (1, .int x0)] := hl
  refine lv_iload_n hx hb d_M_widthOf_0 rfl (lv_at hl 1 rfl) ?_
  refine lv_bipush (v := 10) hx hb d_M_widthOf_1 (by decide) ?_
  refine lv_icmp_eq (tgt := 18) hx hb d_M_widthOf_3 (by decide) (fun c_3 => ?_) (fun c_3 => ?_)
  · skip
    refine lv_iconst (v := 1) hx hb d_M_widthOf_18 (by decide) ?_
    refine lv_goto (tgt := 45) hx hb d_M_widthOf_19 (by decide) ?_
    exact W.iret (v := 1) hx hb hr (fun t ht hW => ⟨_, rfl, by rw [mF_StepMachineModel_widthOf, if_pos c_3], ht⟩) (fun q h => by cases h) d_M_widthOf_45
  · skip
    refine lv_iload_n hx hb d_M_widthOf_6 rfl (lv_at hl 1 rfl) ?_
    refine lv_bipush (v := 13) hx hb d_M_widthOf_7 (by decide) ?_
    refine lv_icmp_eq (tgt := 18) hx hb d_M_widthOf_9 (by decide) (fun c_9 => ?_) (fun c_9 => ?_)
    · skip
      refine lv_iconst (v := 1) hx hb d_M_widthOf_18 (by decide) ?_
      refine lv_goto (tgt := 45) hx hb d_M_widthOf_19 (by decide) ?_
      exact W.iret (v := 1) hx hb hr (fun t ht hW => ⟨_, rfl, by rw [mF_StepMachineModel_widthOf, if_neg c_3, if_pos c_9], ht⟩) (fun q h => by cases h) d_M_widthOf_45
    · skip
      refine lv_iload_n hx hb d_M_widthOf_12 rfl (lv_at hl 1 rfl) ?_
      refine lv_bipush (v := 15) hx hb d_M_widthOf_13 (by decide) ?_
      refine lv_icmp_ne (tgt := 22) hx hb d_M_widthOf_15 (by decide) (fun c_15 => ?_) (fun c_15 => ?_)
      · skip
        refine lv_iload_n hx hb d_M_widthOf_22 rfl (lv_at hl 1 rfl) ?_
        refine lv_bipush (v := 11) hx hb d_M_widthOf_23 (by decide) ?_
        refine lv_icmp_eq (tgt := 40) hx hb d_M_widthOf_25 (by decide) (fun c_25 => ?_) (fun c_25 => ?_)
        · skip
          refine lv_iconst (v := 2) hx hb d_M_widthOf_40 (by decide) ?_
          refine lv_goto (tgt := 45) hx hb d_M_widthOf_41 (by decide) ?_
          exact W.iret (v := 2) hx hb hr (fun t ht hW => ⟨_, rfl, by rw [mF_StepMachineModel_widthOf, if_neg c_3, if_neg c_9, if_neg c_15, if_pos c_25], ht⟩) (fun q h => by cases h) d_M_widthOf_45
        · skip
          refine lv_iload_n hx hb d_M_widthOf_28 rfl (lv_at hl 1 rfl) ?_
          refine lv_bipush (v := 14) hx hb d_M_widthOf_29 (by decide) ?_
          refine lv_icmp_eq (tgt := 40) hx hb d_M_widthOf_31 (by decide) (fun c_31 => ?_) (fun c_31 => ?_)
          · skip
            refine lv_iconst (v := 2) hx hb d_M_widthOf_40 (by decide) ?_
            refine lv_goto (tgt := 45) hx hb d_M_widthOf_41 (by decide) ?_
            exact W.iret (v := 2) hx hb hr (fun t ht hW => ⟨_, rfl, by rw [mF_StepMachineModel_widthOf, if_neg c_3, if_neg c_9, if_neg c_15, if_neg c_25, if_pos c_31], ht⟩) (fun q h => by cases h) d_M_widthOf_45
          · skip
            refine lv_iload_n hx hb d_M_widthOf_34 rfl (lv_at hl 1 rfl) ?_
            refine lv_bipush (v := 16) hx hb d_M_widthOf_35 (by decide) ?_
            refine lv_icmp_ne (tgt := 44) hx hb d_M_widthOf_37 (by decide) (fun c_37 => ?_) (fun c_37 => ?_)
            · skip
              refine lv_iconst (v := 4) hx hb d_M_widthOf_44 (by decide) ?_
              exact W.iret (v := 4) hx hb hr (fun t ht hW => ⟨_, rfl, by rw [mF_StepMachineModel_widthOf, if_neg c_3, if_neg c_9, if_neg c_15, if_neg c_25, if_neg c_31, if_neg c_37], ht⟩) (fun q h => by cases h) d_M_widthOf_45
            · skip
              refine lv_iconst (v := 2) hx hb d_M_widthOf_40 (by decide) ?_
              refine lv_goto (tgt := 45) hx hb d_M_widthOf_41 (by decide) ?_
              exact W.iret (v := 2) hx hb hr (fun t ht hW => ⟨_, rfl, by rw [mF_StepMachineModel_widthOf, if_neg c_3, if_neg c_9, if_neg c_15, if_neg c_25, if_neg c_31, if_pos c_37], ht⟩) (fun q h => by cases h) d_M_widthOf_45
      · skip
        refine lv_iconst (v := 1) hx hb d_M_widthOf_18 (by decide) ?_
        refine lv_goto (tgt := 45) hx hb d_M_widthOf_19 (by decide) ?_
        exact W.iret (v := 1) hx hb hr (fun t ht hW => ⟨_, rfl, by rw [mF_StepMachineModel_widthOf, if_neg c_3, if_neg c_9, if_pos c_15], ht⟩) (fun q h => by cases h) d_M_widthOf_45
def mF_StepMachineModel_isEnd (m_st : Int32) : Int32 := (if m_st = 0 then 0 else (if m_st = 9 then 0 else 1))
set_option maxHeartbeats 4000000 in
set_option maxRecDepth 100000 in
theorem mc_StepMachineModel_isEnd (l : Launch) (D : va_G) (tc : Nat → ClassId) (tb : Nat → Nat) (z0 : Nat) (b_x b_row b_part b_mem b_mrk b_sf b_ss b_sr b_h b_r b_in b_out b_k : Nat) (m_on : Int32) (m_hc : Int32) (m_pc : Int32) (m_giv : Int32) (m_tak : Int32) (m_put : Int32) (m_st : Int32) (m_cu : Int32) (m_va : Int32) (m_sp : Int32) (m_un : Int32) (m_kc : Int32) (m_kn : Int32) (m_by : Int32) (m_kd : Int32) (m_tg : Int32) (m_ju : Int32) : Met l y_M_isEnd (wM y_M_isEnd b_M_isEnd 1 (some .boolean)) ({ frames := 0, cells := 0, slots := 0, locals := 0 }) (va_Pc [.ref b_x] (Pr D tc tb z0 [(b_x, .inr (9, [.ref b_row, .ref b_part, .ref b_mem, .ref b_mrk, .ref b_sf, .ref b_ss, .ref b_sr, .int m_on, .ref b_h, .int m_hc, .ref b_r, .int m_pc, .ref b_in, .int m_giv, .int m_tak, .ref b_out, .int m_put, .int m_st, .int m_cu, .int m_va, .int m_sp, .int m_un, .ref b_k, .int m_kc, .int m_kn, .int m_by, .int m_kd, .int m_tg, .int m_ju]))])) (vp_Si (fun r => r = (mF_StepMachineModel_isEnd m_st))) 0 0 (fun _ => False) := by
  refine Met.ofW (cc := b_M_isEnd) (maxL := 1) (ret := (some .boolean)) (by decide) rfl ?_
  intro p e s m args below meth c s₁ B hml hv
  obtain ⟨rfl, hP, hK, hB⟩ := hv
  have hx := B.exec
  have hb := B.bytes
  have hr := B.returns
  have hts : ∀ w ∈ wALL, w.before _ s = true := fun w h => atoms_spec (ws := (wM y_M_isEnd b_M_isEnd 1 (some .boolean))) B.pre w (List.mem_cons_of_mem _ h)
  have hown : s.vm.findClass "StepMachineModel" = some m.cls := findClass_of_methodNamed B.named
  have hlocks := B.notSynchronized
  have hl := lv_entry ([.ref b_x]) (n := 1) (Nat.le_of_ble_eq_true rfl)
  rw [lg_entry_eq]
  generalize (lg_sl ([.ref b_x]) ++ List.replicate (1 - (lg_sl ([.ref b_x])).length) Slot.unset).toArray = ls at hl ⊢
  have hl : lv_has ls 1 [(0, .ref b_x)] := hl
  refine lv_aload_n hx hb d_M_isEnd_0 rfl (lv_at hl 0 rfl) ?_
  refine va_get (D := D) (ci := 9) (v := .int m_st) (C := "StepMachineModel") (T := TX9) (N := 29) hx hb hts inU_9 hown hK hP 0 rfl rfl 17 (by decide) (hts _ a_650) (fun _ h9 => h9) rfl d_M_isEnd_1 ?_
  refine lv_if_eq (tgt := 20) hx hb d_M_isEnd_4 (by decide) (fun c_4 => ?_) (fun c_4 => ?_)
  · skip
    refine lv_iconst (v := 0) hx hb d_M_isEnd_20 (by decide) ?_
    exact W.zret (v := 0) hx hb hr rfl (fun t ht hW => ⟨_, rfl, by rw [mF_StepMachineModel_isEnd, if_pos c_4], ht⟩) (fun q h => by cases h) d_M_isEnd_21
  · skip
    refine lv_aload_n hx hb d_M_isEnd_7 rfl (lv_at hl 0 rfl) ?_
    refine va_get (D := D) (ci := 9) (v := .int m_st) (C := "StepMachineModel") (T := TX9) (N := 29) hx hb hts inU_9 hown hK hP 0 rfl rfl 17 (by decide) (hts _ a_650) (fun _ h9 => h9) rfl d_M_isEnd_8 ?_
    refine lv_bipush (v := 9) hx hb d_M_isEnd_11 (by decide) ?_
    refine lv_icmp_eq (tgt := 20) hx hb d_M_isEnd_13 (by decide) (fun c_13 => ?_) (fun c_13 => ?_)
    · skip
      refine lv_iconst (v := 0) hx hb d_M_isEnd_20 (by decide) ?_
      exact W.zret (v := 0) hx hb hr rfl (fun t ht hW => ⟨_, rfl, by rw [mF_StepMachineModel_isEnd, if_neg c_4, if_pos c_13], ht⟩) (fun q h => by cases h) d_M_isEnd_21
    · skip
      refine lv_iconst (v := 1) hx hb d_M_isEnd_16 (by decide) ?_
      refine lv_goto (tgt := 21) hx hb d_M_isEnd_17 (by decide) ?_
      exact W.zret (v := 1) hx hb hr rfl (fun t ht hW => ⟨_, rfl, by rw [mF_StepMachineModel_isEnd, if_neg c_4, if_neg c_13], ht⟩) (fun q h => by cases h) d_M_isEnd_21
theorem wd_rng (k : Int32) : mF_StepMachineModel_widthOf k = 1 ∨ mF_StepMachineModel_widthOf k = 2 ∨ mF_StepMachineModel_widthOf k = 4 := by
  rw [mF_StepMachineModel_widthOf]
  repeat' split
  all_goals first | exact Or.inl rfl | exact Or.inr (Or.inl rfl) | exact Or.inr (Or.inr rfl)
theorem wd_ne (k : Int32) : ¬ (mF_StepMachineModel_widthOf k).toInt64 = 0 := by
  rcases wd_rng k with h | h | h <;> (rw [h]; decide)
def mF_StepMachineModel_forget  : Int32 := 0
set_option maxHeartbeats 4000000 in
set_option maxRecDepth 100000 in
theorem mc_StepMachineModel_forget (l : Launch) (D : va_G) (tc : Nat → ClassId) (tb : Nat → Nat) (z0 : Nat) (sz : Nat) (b_x b_row b_part b_mem b_mrk b_sf b_ss b_sr b_h b_r b_in b_out b_k : Nat) (m_on : Int32) (m_hc : Int32) (m_pc : Int32) (m_giv : Int32) (m_tak : Int32) (m_put : Int32) (m_st : Int32) (m_cu : Int32) (m_va : Int32) (m_sp : Int32) (m_un : Int32) (m_kc : Int32) (m_kn : Int32) (m_by : Int32) (m_kd : Int32) (m_tg : Int32) (m_ju : Int32) : Met l y_M_forget (wM y_M_forget b_M_forget 1 none) ({ frames := 0, cells := 0, slots := 0, locals := 0 }) (va_Pc [.ref b_x] (Pw D tc tb z0 [(b_x, .inr (9, [.ref b_row, .ref b_part, .ref b_mem, .ref b_mrk, .ref b_sf, .ref b_ss, .ref b_sr, .int m_on, .ref b_h, .int m_hc, .ref b_r, .int m_pc, .ref b_in, .int m_giv, .int m_tak, .ref b_out, .int m_put, .int m_st, .int m_cu, .int m_va, .int m_sp, .int m_un, .ref b_k, .int m_kc, .int m_kn, .int m_by, .int m_kd, .int m_tg, .int m_ju]))] sz)) (va_Qv (fun u : Int32 => u = mF_StepMachineModel_forget) (Bw D tc (va_A [(b_x, .inr (9, [.ref b_row, .ref b_part, .ref b_mem, .ref b_mrk, .ref b_sf, .ref b_ss, .ref b_sr, .int m_on, .ref b_h, .int m_hc, .ref b_r, .int m_pc, .ref b_in, .int m_giv, .int m_tak, .ref b_out, .int m_put, .int m_st, .int m_cu, .int m_va, .int m_sp, .int m_un, .ref b_k, .int m_kc, .int m_kn, .int m_by, .int m_kd, .int m_tg, .int m_ju]))] sz) (fun u => [(b_x, .inr (9, [.ref b_row, .ref b_part, .ref b_mem, .ref b_mrk, .ref b_sf, .ref b_ss, .ref b_sr, .int m_on, .ref b_h, .int m_hc, .ref b_r, .int m_pc, .ref b_in, .int m_giv, .int m_tak, .ref b_out, .int m_put, .int m_st, .int m_cu, .int m_va, .int m_sp, .int m_un, .ref b_k, .int u, .int m_kn, .int m_by, .int m_kd, .int m_tg, .int m_ju]))])) (va_A [(b_x, .inr (9, [.ref b_row, .ref b_part, .ref b_mem, .ref b_mrk, .ref b_sf, .ref b_ss, .ref b_sr, .int m_on, .ref b_h, .int m_hc, .ref b_r, .int m_pc, .ref b_in, .int m_giv, .int m_tak, .ref b_out, .int m_put, .int m_st, .int m_cu, .int m_va, .int m_sp, .int m_un, .ref b_k, .int m_kc, .int m_kn, .int m_by, .int m_kd, .int m_tg, .int m_ju]))] sz)) 0 0 (va_A [(b_x, .inr (9, [.ref b_row, .ref b_part, .ref b_mem, .ref b_mrk, .ref b_sf, .ref b_ss, .ref b_sr, .int m_on, .ref b_h, .int m_hc, .ref b_r, .int m_pc, .ref b_in, .int m_giv, .int m_tak, .ref b_out, .int m_put, .int m_st, .int m_cu, .int m_va, .int m_sp, .int m_un, .ref b_k, .int m_kc, .int m_kn, .int m_by, .int m_kd, .int m_tg, .int m_ju]))] sz) := by
  refine Met.ofW (cc := b_M_forget) (maxL := 1) (ret := none) (by decide) rfl ?_
  intro p e s m args below meth c s₁ B hml hv
  obtain ⟨rfl, hsz, hP, hK, hB, hD0, hZ0⟩ := hv
  have hx := B.exec
  have hb := B.bytes
  have hr := B.returns
  have hts : ∀ w ∈ wALL, w.before _ s = true := fun w h => atoms_spec (ws := (wM y_M_forget b_M_forget 1 none)) B.pre w (List.mem_cons_of_mem _ h)
  have hown : s.vm.findClass "StepMachineModel" = some m.cls := findClass_of_methodNamed B.named
  have hlocks := B.notSynchronized
  subst hsz
  have hD := hD0.self (sz := s.heap.size)
  generalize hAe : va_A [(b_x, .inr (9, [.ref b_row, .ref b_part, .ref b_mem, .ref b_mrk, .ref b_sf, .ref b_ss, .ref b_sr, .int m_on, .ref b_h, .int m_hc, .ref b_r, .int m_pc, .ref b_in, .int m_giv, .int m_tak, .ref b_out, .int m_put, .int m_st, .int m_cu, .int m_va, .int m_sp, .int m_un, .ref b_k, .int m_kc, .int m_kn, .int m_by, .int m_kd, .int m_tg, .int m_ju]))] s.heap.size = A at hD ⊢
  have hZ : ∀ q : Nat, A q → z0 ≤ q := by rw [← hAe]; exact hZ0
  have hA : ∀ q : Nat, s.heap.size ≤ q → A q := fun q h => by rw [← hAe]; exact Or.inr h
  have hS : va_S A s.heap s.heap [] := va_S.rf
  have hl := lv_entry ([.ref b_x]) (n := 1) (Nat.le_of_ble_eq_true rfl)
  rw [lg_entry_eq]
  generalize (lg_sl ([.ref b_x]) ++ List.replicate (1 - (lg_sl ([.ref b_x])).length) Slot.unset).toArray = ls at hl ⊢
  have hl : lv_has ls 1 [(0, .ref b_x)] := hl
  refine lv_aload_n hx hb d_M_forget_0 rfl (lv_at hl 0 rfl) ?_
  refine lv_iconst (v := 0) hx hb d_M_forget_1 (by decide) ?_
  refine va_put (D := D) (ci := 9) (v := .int 0) (ty := .int) (C := "StepMachineModel") (T := TX9) (N := 29) hx hb hts inU_9 tyX9 tyX9_ok nmX9 hown hK hP hD hS 0 rfl rfl 23 (by decide) (hts _ a_656) (fun _ h9 => h9) rfl (by decide +kernel) rfl rfl (Nat.le_of_ble_eq_true rfl) d_M_forget_2 (fun H locs hP hD hS => ?_)
  have hP : va_P D vwCl [(b_x, .inr (9, [.ref b_row, .ref b_part, .ref b_mem, .ref b_mrk, .ref b_sf, .ref b_ss, .ref b_sr, .int m_on, .ref b_h, .int m_hc, .ref b_r, .int m_pc, .ref b_in, .int m_giv, .int m_tak, .ref b_out, .int m_put, .int m_st, .int m_cu, .int m_va, .int m_sp, .int m_un, .ref b_k, .int 0, .int m_kn, .int m_by, .int m_kd, .int m_tg, .int m_ju]))] H := hP
  have hD : va_D A [(b_x, .inr (9, [.ref b_row, .ref b_part, .ref b_mem, .ref b_mrk, .ref b_sf, .ref b_ss, .ref b_sr, .int m_on, .ref b_h, .int m_hc, .ref b_r, .int m_pc, .ref b_in, .int m_giv, .int m_tak, .ref b_out, .int m_put, .int m_st, .int m_cu, .int m_va, .int m_sp, .int m_un, .ref b_k, .int 0, .int m_kn, .int m_by, .int m_kd, .int m_tg, .int m_ju]))] := hD
  exact W.vret hx hb hr (fun t ht hW => ⟨⟨0, rfl, by rw [mF_StepMachineModel_forget], by rw [ht]; exact hP, va_K.moved hW.alike hK, hD⟩, hS.F ht⟩) hS.2.2 d_M_forget_5
def mF_StepMachineModel_fail (x0 : Int32) (x1 : Int32) : Int32 × Int32 × Int32 := (x0, x0, x1)
set_option maxHeartbeats 4000000 in
set_option maxRecDepth 100000 in
theorem mc_StepMachineModel_fail (l : Launch) (D : va_G) (tc : Nat → ClassId) (tb : Nat → Nat) (z0 : Nat) (sz : Nat) (b_x b_row b_part b_mem b_mrk b_sf b_ss b_sr b_h b_r b_in b_out b_k : Nat) (m_on : Int32) (m_hc : Int32) (m_pc : Int32) (m_giv : Int32) (m_tak : Int32) (m_put : Int32) (m_st : Int32) (m_cu : Int32) (m_va : Int32) (m_sp : Int32) (m_un : Int32) (m_kc : Int32) (m_kn : Int32) (m_by : Int32) (m_kd : Int32) (m_tg : Int32) (m_ju : Int32) (x0 : Int32) (x1 : Int32) : Met l y_M_fail (wM y_M_fail b_M_fail 3 (some .int)) ({ frames := 0, cells := 0, slots := 0, locals := 0 }) (va_Pc [.ref b_x, .int x0, .int x1] (Pw D tc tb z0 [(b_x, .inr (9, [.ref b_row, .ref b_part, .ref b_mem, .ref b_mrk, .ref b_sf, .ref b_ss, .ref b_sr, .int m_on, .ref b_h, .int m_hc, .ref b_r, .int m_pc, .ref b_in, .int m_giv, .int m_tak, .ref b_out, .int m_put, .int m_st, .int m_cu, .int m_va, .int m_sp, .int m_un, .ref b_k, .int m_kc, .int m_kn, .int m_by, .int m_kd, .int m_tg, .int m_ju]))] sz)) (va_Qi (fun (r : Int32) (u : Int32 × Int32) => (r, u) = (mF_StepMachineModel_fail x0 x1)) (Bw D tc (va_A [(b_x, .inr (9, [.ref b_row, .ref b_part, .ref b_mem, .ref b_mrk, .ref b_sf, .ref b_ss, .ref b_sr, .int m_on, .ref b_h, .int m_hc, .ref b_r, .int m_pc, .ref b_in, .int m_giv, .int m_tak, .ref b_out, .int m_put, .int m_st, .int m_cu, .int m_va, .int m_sp, .int m_un, .ref b_k, .int m_kc, .int m_kn, .int m_by, .int m_kd, .int m_tg, .int m_ju]))] sz) (fun u => [(b_x, .inr (9, [.ref b_row, .ref b_part, .ref b_mem, .ref b_mrk, .ref b_sf, .ref b_ss, .ref b_sr, .int m_on, .ref b_h, .int m_hc, .ref b_r, .int m_pc, .ref b_in, .int m_giv, .int m_tak, .ref b_out, .int m_put, .int u.1, .int u.2, .int m_va, .int m_sp, .int m_un, .ref b_k, .int m_kc, .int m_kn, .int m_by, .int m_kd, .int m_tg, .int m_ju]))])) (va_A [(b_x, .inr (9, [.ref b_row, .ref b_part, .ref b_mem, .ref b_mrk, .ref b_sf, .ref b_ss, .ref b_sr, .int m_on, .ref b_h, .int m_hc, .ref b_r, .int m_pc, .ref b_in, .int m_giv, .int m_tak, .ref b_out, .int m_put, .int m_st, .int m_cu, .int m_va, .int m_sp, .int m_un, .ref b_k, .int m_kc, .int m_kn, .int m_by, .int m_kd, .int m_tg, .int m_ju]))] sz)) 0 0 (va_A [(b_x, .inr (9, [.ref b_row, .ref b_part, .ref b_mem, .ref b_mrk, .ref b_sf, .ref b_ss, .ref b_sr, .int m_on, .ref b_h, .int m_hc, .ref b_r, .int m_pc, .ref b_in, .int m_giv, .int m_tak, .ref b_out, .int m_put, .int m_st, .int m_cu, .int m_va, .int m_sp, .int m_un, .ref b_k, .int m_kc, .int m_kn, .int m_by, .int m_kd, .int m_tg, .int m_ju]))] sz) := by
  refine Met.ofW (cc := b_M_fail) (maxL := 3) (ret := (some .int)) (by decide) rfl ?_
  intro p e s m args below meth c s₁ B hml hv
  obtain ⟨rfl, hsz, hP, hK, hB, hD0, hZ0⟩ := hv
  have hx := B.exec
  have hb := B.bytes
  have hr := B.returns
  have hts : ∀ w ∈ wALL, w.before _ s = true := fun w h => atoms_spec (ws := (wM y_M_fail b_M_fail 3 (some .int))) B.pre w (List.mem_cons_of_mem _ h)
  have hown : s.vm.findClass "StepMachineModel" = some m.cls := findClass_of_methodNamed B.named
  have hlocks := B.notSynchronized
  subst hsz
  have hD := hD0.self (sz := s.heap.size)
  generalize hAe : va_A [(b_x, .inr (9, [.ref b_row, .ref b_part, .ref b_mem, .ref b_mrk, .ref b_sf, .ref b_ss, .ref b_sr, .int m_on, .ref b_h, .int m_hc, .ref b_r, .int m_pc, .ref b_in, .int m_giv, .int m_tak, .ref b_out, .int m_put, .int m_st, .int m_cu, .int m_va, .int m_sp, .int m_un, .ref b_k, .int m_kc, .int m_kn, .int m_by, .int m_kd, .int m_tg, .int m_ju]))] s.heap.size = A at hD ⊢
  have hZ : ∀ q : Nat, A q → z0 ≤ q := by rw [← hAe]; exact hZ0
  have hA : ∀ q : Nat, s.heap.size ≤ q → A q := fun q h => by rw [← hAe]; exact Or.inr h
  have hS : va_S A s.heap s.heap [] := va_S.rf
  have hl := lv_entry ([.ref b_x, .int x0, .int x1]) (n := 3) (Nat.le_of_ble_eq_true rfl)
  rw [lg_entry_eq]
  generalize (lg_sl ([.ref b_x, .int x0, .int x1]) ++ List.replicate (3 - (lg_sl ([.ref b_x, .int x0, .int x1])).length) Slot.unset).toArray = ls at hl ⊢
  have hl : lv_has ls 3 [(0, .ref b_x), (1, .int x0), (2, .int x1)] := hl
  refine lv_aload_n hx hb d_M_fail_0 rfl (lv_at hl 0 rfl) ?_
  refine lv_iload_n hx hb d_M_fail_1 rfl (lv_at hl 1 rfl) ?_
  refine va_put (D := D) (ci := 9) (v := .int x0) (ty := .int) (C := "StepMachineModel") (T := TX9) (N := 29) hx hb hts inU_9 tyX9 tyX9_ok nmX9 hown hK hP hD hS 0 rfl rfl 17 (by decide) (hts _ a_650) (fun _ h9 => h9) rfl (by decide +kernel) rfl rfl (Nat.le_of_ble_eq_true rfl) d_M_fail_2 (fun H locs hP hD hS => ?_)
  have hP : va_P D vwCl [(b_x, .inr (9, [.ref b_row, .ref b_part, .ref b_mem, .ref b_mrk, .ref b_sf, .ref b_ss, .ref b_sr, .int m_on, .ref b_h, .int m_hc, .ref b_r, .int m_pc, .ref b_in, .int m_giv, .int m_tak, .ref b_out, .int m_put, .int x0, .int m_cu, .int m_va, .int m_sp, .int m_un, .ref b_k, .int m_kc, .int m_kn, .int m_by, .int m_kd, .int m_tg, .int m_ju]))] H := hP
  have hD : va_D A [(b_x, .inr (9, [.ref b_row, .ref b_part, .ref b_mem, .ref b_mrk, .ref b_sf, .ref b_ss, .ref b_sr, .int m_on, .ref b_h, .int m_hc, .ref b_r, .int m_pc, .ref b_in, .int m_giv, .int m_tak, .ref b_out, .int m_put, .int x0, .int m_cu, .int m_va, .int m_sp, .int m_un, .ref b_k, .int m_kc, .int m_kn, .int m_by, .int m_kd, .int m_tg, .int m_ju]))] := hD
  refine lv_aload_n hx hb d_M_fail_5 rfl (lv_at hl 0 rfl) ?_
  refine lv_iload_n hx hb d_M_fail_6 rfl (lv_at hl 2 rfl) ?_
  refine va_put (D := D) (ci := 9) (v := .int x1) (ty := .int) (C := "StepMachineModel") (T := TX9) (N := 29) hx hb hts inU_9 tyX9 tyX9_ok nmX9 hown hK hP hD hS 0 rfl rfl 18 (by decide) (hts _ a_651) (fun _ h9 => h9) rfl (by decide +kernel) rfl rfl (Nat.le_of_ble_eq_true rfl) d_M_fail_7 (fun H locs hP hD hS => ?_)
  have hP : va_P D vwCl [(b_x, .inr (9, [.ref b_row, .ref b_part, .ref b_mem, .ref b_mrk, .ref b_sf, .ref b_ss, .ref b_sr, .int m_on, .ref b_h, .int m_hc, .ref b_r, .int m_pc, .ref b_in, .int m_giv, .int m_tak, .ref b_out, .int m_put, .int x0, .int x1, .int m_va, .int m_sp, .int m_un, .ref b_k, .int m_kc, .int m_kn, .int m_by, .int m_kd, .int m_tg, .int m_ju]))] H := hP
  have hD : va_D A [(b_x, .inr (9, [.ref b_row, .ref b_part, .ref b_mem, .ref b_mrk, .ref b_sf, .ref b_ss, .ref b_sr, .int m_on, .ref b_h, .int m_hc, .ref b_r, .int m_pc, .ref b_in, .int m_giv, .int m_tak, .ref b_out, .int m_put, .int x0, .int x1, .int m_va, .int m_sp, .int m_un, .ref b_k, .int m_kc, .int m_kn, .int m_by, .int m_kd, .int m_tg, .int m_ju]))] := hD
  refine lv_iload_n hx hb d_M_fail_10 rfl (lv_at hl 1 rfl) ?_
  exact W.iret (v := x0) hx hb hr (fun t ht hW => ⟨⟨_, (x0, x1), rfl, by rw [mF_StepMachineModel_fail], by rw [ht]; exact hP, va_K.moved hW.alike hK, hD⟩, hS.F ht⟩) hS.2.2 d_M_fail_11
