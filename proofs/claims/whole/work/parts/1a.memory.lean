def cF_Memory_has (x0 : Int32) : Int32 := (if x0 < 0 then 0 else (if 131072 ≤ x0 then 0 else 1))
set_option maxHeartbeats 4000000 in
set_option maxRecDepth 100000 in
theorem cc_Memory_has (l : Launch) (D : va_G) (tc : Nat → ClassId) (tb : Nat → Nat) (z0 : Nat) (x0 : Int32) : Met l y_Memo_has (wM y_Memo_has b_Memo_has 1 (some .boolean)) ({ frames := 0, cells := 0, slots := 0, locals := 0 }) (va_Pc [.int x0] (Pr D tc tb z0 [])) (vp_Si (fun r => r = (cF_Memory_has x0))) 0 0 (fun _ => False) := by
  refine Met.ofW (cc := b_Memo_has) (maxL := 1) (ret := (some .boolean)) (by decide) rfl ?_
  intro p e s m args below meth c s₁ B hml hv
  obtain ⟨rfl, hP, hK, hB⟩ := hv
  have hx := B.exec
  have hb := B.bytes
  have hr := B.returns
  have hts : ∀ w ∈ wALL, w.before _ s = true := fun w h => atoms_spec (ws := (wM y_Memo_has b_Memo_has 1 (some .boolean))) B.pre w (List.mem_cons_of_mem _ h)
  have hown : s.vm.findClass "StepMachine$Memory" = some m.cls := findClass_of_methodNamed B.named
  have hlocks := B.notSynchronized
  have hl := lv_entry ([.int x0]) (n := 1) (Nat.le_of_ble_eq_true rfl)
  rw [lg_entry_eq]
  generalize (lg_sl ([.int x0]) ++ List.replicate (1 - (lg_sl ([.int x0])).length) Slot.unset).toArray = ls at hl ⊢
  have hl : lv_has ls 1 [(0, .int x0)] := hl
  refine lv_iload_n hx hb d_Memo_has_0 rfl (lv_at hl 0 rfl) ?_
  refine lv_if_lt (tgt := 14) hx hb d_Memo_has_1 (by decide) (fun c_1 => ?_) (fun c_1 => ?_)
  · skip
    refine lv_iconst (v := 0) hx hb d_Memo_has_14 (by decide) ?_
    exact W.zret (v := 0) hx hb hr rfl (fun t ht hW => ⟨_, rfl, by rw [cF_Memory_has, if_pos c_1], ht⟩) (fun q h => by cases h) d_Memo_has_15
  · skip
    refine lv_iload_n hx hb d_Memo_has_4 rfl (lv_at hl 0 rfl) ?_
    refine lv_ldc (v := 131072) hx hb hown (hts _ a_248) d_Memo_has_5 ?_
    refine lv_icmp_ge (tgt := 14) hx hb d_Memo_has_7 (by decide) (fun c_7 => ?_) (fun c_7 => ?_)
    · skip
      refine lv_iconst (v := 0) hx hb d_Memo_has_14 (by decide) ?_
      exact W.zret (v := 0) hx hb hr rfl (fun t ht hW => ⟨_, rfl, by rw [cF_Memory_has, if_neg c_1, if_pos c_7], ht⟩) (fun q h => by cases h) d_Memo_has_15
    · skip
      refine lv_iconst (v := 1) hx hb d_Memo_has_10 (by decide) ?_
      refine lv_goto (tgt := 15) hx hb d_Memo_has_11 (by decide) ?_
      exact W.zret (v := 1) hx hb hr rfl (fun t ht hW => ⟨_, rfl, by rw [cF_Memory_has, if_neg c_1, if_neg c_7], ht⟩) (fun q h => by cases h) d_Memo_has_15
def cF_Memory_shiftOf (x0 : Int32) : Int32 := ((x0 &&& 3) * 8)
set_option maxHeartbeats 4000000 in
set_option maxRecDepth 100000 in
theorem cc_Memory_shiftOf (l : Launch) (D : va_G) (tc : Nat → ClassId) (tb : Nat → Nat) (z0 : Nat) (x0 : Int32) : Met l y_Memo_shiftOf (wM y_Memo_shiftOf b_Memo_shiftOf 1 (some .int)) ({ frames := 0, cells := 0, slots := 0, locals := 0 }) (va_Pc [.int x0] (Pr D tc tb z0 [])) (vp_Si (fun r => r = (cF_Memory_shiftOf x0))) 0 0 (fun _ => False) := by
  refine Met.ofW (cc := b_Memo_shiftOf) (maxL := 1) (ret := (some .int)) (by decide) rfl ?_
  intro p e s m args below meth c s₁ B hml hv
  obtain ⟨rfl, hP, hK, hB⟩ := hv
  have hx := B.exec
  have hb := B.bytes
  have hr := B.returns
  have hts : ∀ w ∈ wALL, w.before _ s = true := fun w h => atoms_spec (ws := (wM y_Memo_shiftOf b_Memo_shiftOf 1 (some .int))) B.pre w (List.mem_cons_of_mem _ h)
  have hown : s.vm.findClass "StepMachine$Memory" = some m.cls := findClass_of_methodNamed B.named
  have hlocks := B.notSynchronized
  have hl := lv_entry ([.int x0]) (n := 1) (Nat.le_of_ble_eq_true rfl)
  rw [lg_entry_eq]
  generalize (lg_sl ([.int x0]) ++ List.replicate (1 - (lg_sl ([.int x0])).length) Slot.unset).toArray = ls at hl ⊢
  have hl : lv_has ls 1 [(0, .int x0)] := hl
  refine lv_iload_n hx hb d_Memo_shiftOf_0 rfl (lv_at hl 0 rfl) ?_
  refine lv_iconst (v := 3) hx hb d_Memo_shiftOf_1 (by decide) ?_
  refine lv_iand hx hb d_Memo_shiftOf_2 ?_
  refine lv_bipush (v := 8) hx hb d_Memo_shiftOf_3 (by decide) ?_
  refine lv_imul hx hb d_Memo_shiftOf_5 ?_
  exact W.iret (v := ((x0 &&& 3) * 8)) hx hb hr (fun t ht hW => ⟨_, rfl, by rw [cF_Memory_shiftOf], ht⟩) (fun q h => by cases h) d_Memo_shiftOf_6
def cF_Memory_maskOf (x0 : Int32) : Int32 := (if x0 < 4 then (((1 : Int32) <<< ((8 * x0) &&& 31)) - 1) else (-1))
set_option maxHeartbeats 4000000 in
set_option maxRecDepth 100000 in
theorem cc_Memory_maskOf (l : Launch) (D : va_G) (tc : Nat → ClassId) (tb : Nat → Nat) (z0 : Nat) (x0 : Int32) : Met l y_Memo_maskOf (wM y_Memo_maskOf b_Memo_maskOf 1 (some .int)) ({ frames := 0, cells := 0, slots := 0, locals := 0 }) (va_Pc [.int x0] (Pr D tc tb z0 [])) (vp_Si (fun r => r = (cF_Memory_maskOf x0))) 0 0 (fun _ => False) := by
  refine Met.ofW (cc := b_Memo_maskOf) (maxL := 1) (ret := (some .int)) (by decide) rfl ?_
  intro p e s m args below meth c s₁ B hml hv
  obtain ⟨rfl, hP, hK, hB⟩ := hv
  have hx := B.exec
  have hb := B.bytes
  have hr := B.returns
  have hts : ∀ w ∈ wALL, w.before _ s = true := fun w h => atoms_spec (ws := (wM y_Memo_maskOf b_Memo_maskOf 1 (some .int))) B.pre w (List.mem_cons_of_mem _ h)
  have hown : s.vm.findClass "StepMachine$Memory" = some m.cls := findClass_of_methodNamed B.named
  have hlocks := B.notSynchronized
  have hl := lv_entry ([.int x0]) (n := 1) (Nat.le_of_ble_eq_true rfl)
  rw [lg_entry_eq]
  generalize (lg_sl ([.int x0]) ++ List.replicate (1 - (lg_sl ([.int x0])).length) Slot.unset).toArray = ls at hl ⊢
  have hl : lv_has ls 1 [(0, .int x0)] := hl
  refine lv_iload_n hx hb d_Memo_maskOf_0 rfl (lv_at hl 0 rfl) ?_
  refine lv_iconst (v := 4) hx hb d_Memo_maskOf_1 (by decide) ?_
  refine lv_icmp_lt (tgt := 9) hx hb d_Memo_maskOf_2 (by decide) (fun c_2 => ?_) (fun c_2 => ?_)
  · skip
    refine lv_iconst (v := 1) hx hb d_Memo_maskOf_9 (by decide) ?_
    refine lv_bipush (v := 8) hx hb d_Memo_maskOf_10 (by decide) ?_
    refine lv_iload_n hx hb d_Memo_maskOf_12 rfl (lv_at hl 0 rfl) ?_
    refine lv_imul hx hb d_Memo_maskOf_13 ?_
    refine lv_ishl hx hb d_Memo_maskOf_14 ?_
    refine lv_iconst (v := 1) hx hb d_Memo_maskOf_15 (by decide) ?_
    refine lv_isub hx hb d_Memo_maskOf_16 ?_
    exact W.iret (v := (((1 : Int32) <<< ((8 * x0) &&& 31)) - 1)) hx hb hr (fun t ht hW => ⟨_, rfl, by rw [cF_Memory_maskOf, if_pos c_2], ht⟩) (fun q h => by cases h) d_Memo_maskOf_17
  · skip
    refine lv_iconst (v := (-1)) hx hb d_Memo_maskOf_5 (by decide) ?_
    refine lv_goto (tgt := 17) hx hb d_Memo_maskOf_6 (by decide) ?_
    exact W.iret (v := (-1)) hx hb hr (fun t ht hW => ⟨_, rfl, by rw [cF_Memory_maskOf, if_neg c_2], ht⟩) (fun q h => by cases h) d_Memo_maskOf_17
theorem ob_has {x : Int32} (h : ¬ cF_Memory_has x = 0) : vp_in (x >>> ((2 : Int32) &&& 31)) 32768 := by
  rw [cF_Memory_has] at h
  split at h
  · exact absurd rfl h
  · split at h
    · exact absurd rfl h
    · rename_i h1 h2
      have a1 := ob_nlt h1
      have a2 := ob_nle h2
      have e1 : (0 : Int32).toInt = 0 := by decide
      have e2 : (131072 : Int32).toInt = 131072 := by decide
      rw [vp_in_iff, pk_shr x ((2 : Int32) &&& 31) 2 (by decide), Int.shiftRight_eq_div_pow]
      constructor <;> omega
def cF_Memory_cellOf (v_mem : Nat → Int32) (x0 : Int32) : Int32 := (if (cF_Memory_has x0) = 0 then 0 else (v_mem (x0 >>> ((2 : Int32) &&& 31)).toNatClampNeg))
set_option maxHeartbeats 4000000 in
set_option maxRecDepth 100000 in
theorem cc_Memory_cellOf (l : Launch) (D : va_G) (tc : Nat → ClassId) (tb : Nat → Nat) (z0 : Nat) (a_m a_mc : Nat) (v_mem : Nat → Int32) (x0 : Int32) : Met l y_Memo_cellOf (wM y_Memo_cellOf b_Memo_cellOf 2 (some .int)) ({ frames := 1, cells := 0, slots := 0, locals := 20 }) (va_Pc [.ref a_m, .int x0] (Pr D tc tb z0 [(a_m, .inr (0, [.ref a_mc])), (a_mc, .inl (tc 0, 32768, .inl v_mem))])) (vp_Si (fun r => r = (cF_Memory_cellOf v_mem x0))) 0 0 (fun _ => False) := by
  refine Met.ofW (cc := b_Memo_cellOf) (maxL := 2) (ret := (some .int)) (by decide) rfl ?_
  intro p e s m args below meth c s₁ B hml hv
  obtain ⟨rfl, hP, hK, hB⟩ := hv
  have hx := B.exec
  have hb := B.bytes
  have hr := B.returns
  have hts : ∀ w ∈ wALL, w.before _ s = true := fun w h => atoms_spec (ws := (wM y_Memo_cellOf b_Memo_cellOf 2 (some .int))) B.pre w (List.mem_cons_of_mem _ h)
  have hown : s.vm.findClass "StepMachine$Memory" = some m.cls := findClass_of_methodNamed B.named
  have hlocks := B.notSynchronized
  have hl := lv_entry ([.ref a_m, .int x0]) (n := 2) (Nat.le_of_ble_eq_true rfl)
  rw [lg_entry_eq]
  generalize (lg_sl ([.ref a_m, .int x0]) ++ List.replicate (2 - (lg_sl ([.ref a_m, .int x0])).length) Slot.unset).toArray = ls at hl ⊢
  have hl : lv_has ls 2 [(0, .ref a_m), (1, .int x0)] := hl
  refine lv_iload_n hx hb d_Memo_cellOf_0 rfl (lv_at hl 1 rfl) ?_
  refine roSi (As := [.int x0]) (rest := []) ⟨hx, hb, hml, hown, hts⟩ (cc_Memory_has l D tc tb z0 x0) (va_cwS 1 hts (goodS a_245 a_246 a_2 a_247) rfl rfl rfl hs_Memo_has ⟨Nat.le_of_ble_eq_true rfl, Nat.le_of_ble_eq_true rfl⟩) (hP.sub [] rfl) hK hB rfl hl.1 rfl (Nat.le_of_ble_eq_true rfl) d_Memo_cellOf_1 ⟨Nat.zero_le _, Nat.zero_le _⟩ ?_
  refine lv_if_eq (tgt := 18) hx hb d_Memo_cellOf_4 (by decide) (fun c_4 => ?_) (fun c_4 => ?_)
  · skip
    refine lv_iconst (v := 0) hx hb d_Memo_cellOf_18 (by decide) ?_
    exact W.iret (v := 0) hx hb hr (fun t ht hW => ⟨_, rfl, by rw [cF_Memory_cellOf, if_pos c_4], ht⟩) (fun q h => by cases h) d_Memo_cellOf_19
  · skip
    refine lv_aload_n hx hb d_Memo_cellOf_7 rfl (lv_at hl 0 rfl) ?_
    refine va_get (D := D) (ci := 0) (v := .ref a_mc) (C := "StepMachine$Memory") (T := TX0) (N := 1) hx hb hts inU_0 hown hK hP 0 rfl rfl 0 (by decide) (hts _ a_29) (fun _ h9 => h9) rfl d_Memo_cellOf_8 ?_
    refine lv_iload_n hx hb d_Memo_cellOf_11 rfl (lv_at hl 1 rfl) ?_
    refine lv_iconst (v := 2) hx hb d_Memo_cellOf_12 (by decide) ?_
    refine lv_ishr hx hb d_Memo_cellOf_13 ?_
    refine va_iald hx hb hK hP 1 0 rfl rfl (ob_has c_4) d_Memo_cellOf_14 ?_
    refine lv_goto (tgt := 19) hx hb d_Memo_cellOf_15 (by decide) ?_
    exact W.iret (v := (v_mem (x0 >>> ((2 : Int32) &&& 31)).toNatClampNeg)) hx hb hr (fun t ht hW => ⟨_, rfl, by rw [cF_Memory_cellOf, if_neg c_4], ht⟩) (fun q h => by cases h) d_Memo_cellOf_19
def cF_Memory_number (v_mem : Nat → Int32) (x0 : Int32) (x1 : Int32) : Int32 := ((j_ushr (cF_Memory_cellOf v_mem x0) (cF_Memory_shiftOf x0)) &&& (cF_Memory_maskOf x1))
set_option maxHeartbeats 4000000 in
set_option maxRecDepth 100000 in
theorem cc_Memory_number (l : Launch) (D : va_G) (tc : Nat → ClassId) (tb : Nat → Nat) (z0 : Nat) (a_m a_mc : Nat) (v_mem : Nat → Int32) (x0 : Int32) (x1 : Int32) : Met l y_Memo_number (wM y_Memo_number b_Memo_number 3 (some .int)) ({ frames := 2, cells := 0, slots := 0, locals := 41 }) (va_Pc [.ref a_m, .int x0, .int x1] (Pr D tc tb z0 [(a_m, .inr (0, [.ref a_mc])), (a_mc, .inl (tc 0, 32768, .inl v_mem))])) (vp_Si (fun r => r = (cF_Memory_number v_mem x0 x1))) 0 0 (fun _ => False) := by
  refine Met.ofW (cc := b_Memo_number) (maxL := 3) (ret := (some .int)) (by decide) rfl ?_
  intro p e s m args below meth c s₁ B hml hv
  obtain ⟨rfl, hP, hK, hB⟩ := hv
  have hx := B.exec
  have hb := B.bytes
  have hr := B.returns
  have hts : ∀ w ∈ wALL, w.before _ s = true := fun w h => atoms_spec (ws := (wM y_Memo_number b_Memo_number 3 (some .int))) B.pre w (List.mem_cons_of_mem _ h)
  have hown : s.vm.findClass "StepMachine$Memory" = some m.cls := findClass_of_methodNamed B.named
  have hlocks := B.notSynchronized
  have hl := lv_entry ([.ref a_m, .int x0, .int x1]) (n := 3) (Nat.le_of_ble_eq_true rfl)
  rw [lg_entry_eq]
  generalize (lg_sl ([.ref a_m, .int x0, .int x1]) ++ List.replicate (3 - (lg_sl ([.ref a_m, .int x0, .int x1])).length) Slot.unset).toArray = ls at hl ⊢
  have hl : lv_has ls 3 [(0, .ref a_m), (1, .int x0), (2, .int x1)] := hl
  refine lv_aload_n hx hb d_Memo_number_0 rfl (lv_at hl 0 rfl) ?_
  refine lv_iload_n hx hb d_Memo_number_1 rfl (lv_at hl 1 rfl) ?_
  refine roVi (As := [.int x0]) (rest := []) ⟨hx, hb, hml, hown, hts⟩ (cc_Memory_cellOf l D tc tb z0 a_m a_mc v_mem x0) (cwV 1 hts (goodV a_241 a_242 a_243 a_2 a_244) rfl rfl rfl hv_Memo_cellOf ⟨Nat.le_of_ble_eq_true rfl, Nat.le_of_ble_eq_true rfl⟩) (hP.sub [0, 1] rfl) hK hB rfl rfl rfl hl.1 rfl (Nat.le_of_ble_eq_true rfl) d_Memo_number_2 ⟨Nat.zero_le _, Nat.zero_le _⟩ ?_
  refine lv_iload_n hx hb d_Memo_number_5 rfl (lv_at hl 1 rfl) ?_
  refine roSi (As := [.int x0]) (rest := [.int (cF_Memory_cellOf v_mem x0)]) ⟨hx, hb, hml, hown, hts⟩ (cc_Memory_shiftOf l D tc tb z0 x0) (va_cwS 1 hts (goodS a_238 a_239 a_2 a_240) rfl rfl rfl hs_Memo_shiftOf ⟨Nat.le_of_ble_eq_true rfl, Nat.le_of_ble_eq_true rfl⟩) (hP.sub [] rfl) hK hB rfl hl.1 rfl (Nat.le_of_ble_eq_true rfl) d_Memo_number_6 ⟨Nat.zero_le _, Nat.zero_le _⟩ ?_
  refine lv_iushr (v := (j_ushr (cF_Memory_cellOf v_mem x0) (cF_Memory_shiftOf x0))) hx hb d_Memo_number_9 rfl ?_
  refine lv_iload_n hx hb d_Memo_number_10 rfl (lv_at hl 2 rfl) ?_
  refine roSi (As := [.int x1]) (rest := [.int (j_ushr (cF_Memory_cellOf v_mem x0) (cF_Memory_shiftOf x0))]) ⟨hx, hb, hml, hown, hts⟩ (cc_Memory_maskOf l D tc tb z0 x1) (va_cwS 1 hts (goodS a_235 a_236 a_2 a_237) rfl rfl rfl hs_Memo_maskOf ⟨Nat.le_of_ble_eq_true rfl, Nat.le_of_ble_eq_true rfl⟩) (hP.sub [] rfl) hK hB rfl hl.1 rfl (Nat.le_of_ble_eq_true rfl) d_Memo_number_11 ⟨Nat.zero_le _, Nat.zero_le _⟩ ?_
  refine lv_iand hx hb d_Memo_number_14 ?_
  exact W.iret (v := ((j_ushr (cF_Memory_cellOf v_mem x0) (cF_Memory_shiftOf x0)) &&& (cF_Memory_maskOf x1))) hx hb hr (fun t ht hW => ⟨_, rfl, by rw [cF_Memory_number], ht⟩) (fun q h => by cases h) d_Memo_number_15
def cF_Memory_putCell (v_mem : Nat → Int32) (x0 : Int32) (x1 : Int32) : (Nat → Int32) := (if (cF_Memory_has x0) = 0 then v_mem else (upd v_mem (x0 >>> ((2 : Int32) &&& 31)).toNatClampNeg x1))
set_option maxHeartbeats 4000000 in
set_option maxRecDepth 100000 in
theorem cc_Memory_putCell (l : Launch) (D : va_G) (tc : Nat → ClassId) (tb : Nat → Nat) (z0 : Nat) (sz : Nat) (a_m a_mc : Nat) (v_mem : Nat → Int32) (x0 : Int32) (x1 : Int32) : Met l y_Memo_putCell (wM y_Memo_putCell b_Memo_putCell 3 none) ({ frames := 1, cells := 0, slots := 0, locals := 20 }) (va_Pc [.ref a_m, .int x0, .int x1] (Pw D tc tb z0 [(a_m, .inr (0, [.ref a_mc])), (a_mc, .inl (tc 0, 32768, .inl v_mem))] sz)) (va_Qv (fun u : (Nat → Int32) => u = (cF_Memory_putCell v_mem x0 x1)) (Bw D tc (va_A [(a_m, .inr (0, [.ref a_mc])), (a_mc, .inl (tc 0, 32768, .inl v_mem))] sz) (fun u => [(a_m, .inr (0, [.ref a_mc])), (a_mc, .inl (tc 0, 32768, .inl u))])) (va_A [(a_m, .inr (0, [.ref a_mc])), (a_mc, .inl (tc 0, 32768, .inl v_mem))] sz)) 0 0 (va_A [(a_m, .inr (0, [.ref a_mc])), (a_mc, .inl (tc 0, 32768, .inl v_mem))] sz) := by
  refine Met.ofW (cc := b_Memo_putCell) (maxL := 3) (ret := none) (by decide) rfl ?_
  intro p e s m args below meth c s₁ B hml hv
  obtain ⟨rfl, hsz, hP, hK, hB, hD0, hZ0⟩ := hv
  have hx := B.exec
  have hb := B.bytes
  have hr := B.returns
  have hts : ∀ w ∈ wALL, w.before _ s = true := fun w h => atoms_spec (ws := (wM y_Memo_putCell b_Memo_putCell 3 none)) B.pre w (List.mem_cons_of_mem _ h)
  have hown : s.vm.findClass "StepMachine$Memory" = some m.cls := findClass_of_methodNamed B.named
  have hlocks := B.notSynchronized
  subst hsz
  have hD := hD0.self (sz := s.heap.size)
  generalize hAe : va_A [(a_m, .inr (0, [.ref a_mc])), (a_mc, .inl (tc 0, 32768, .inl v_mem))] s.heap.size = A at hD ⊢
  have hZ : ∀ q : Nat, A q → z0 ≤ q := by rw [← hAe]; exact hZ0
  have hA : ∀ q : Nat, s.heap.size ≤ q → A q := fun q h => by rw [← hAe]; exact Or.inr h
  have hS : va_S A s.heap s.heap [] := va_S.rf
  have hl := lv_entry ([.ref a_m, .int x0, .int x1]) (n := 3) (Nat.le_of_ble_eq_true rfl)
  rw [lg_entry_eq]
  generalize (lg_sl ([.ref a_m, .int x0, .int x1]) ++ List.replicate (3 - (lg_sl ([.ref a_m, .int x0, .int x1])).length) Slot.unset).toArray = ls at hl ⊢
  have hl : lv_has ls 3 [(0, .ref a_m), (1, .int x0), (2, .int x1)] := hl
  refine lv_iload_n hx hb d_Memo_putCell_0 rfl (lv_at hl 1 rfl) ?_
  refine roSi (As := [.int x0]) (rest := []) ⟨hx, hb, hml, hown, hts⟩ (cc_Memory_has l D tc tb z0 x0) (va_cwS 1 hts (goodS a_245 a_246 a_2 a_247) rfl rfl rfl hs_Memo_has ⟨Nat.le_of_ble_eq_true rfl, Nat.le_of_ble_eq_true rfl⟩) (hP.sub [] rfl) hK (hB.kept hS hZ) rfl hl.1 rfl (Nat.le_of_ble_eq_true rfl) d_Memo_putCell_1 ⟨Nat.zero_le _, Nat.zero_le _⟩ ?_
  refine lv_if_eq (tgt := 16) hx hb d_Memo_putCell_4 (by decide) (fun c_4 => ?_) (fun c_4 => ?_)
  · skip
    exact W.vret hx hb hr (fun t ht hW => ⟨⟨v_mem, rfl, by rw [cF_Memory_putCell, if_pos c_4], by rw [ht]; exact hP, va_K.moved hW.alike hK, hD⟩, hS.F ht⟩) hS.2.2 d_Memo_putCell_16
  · skip
    refine lv_aload_n hx hb d_Memo_putCell_7 rfl (lv_at hl 0 rfl) ?_
    refine va_get (D := D) (ci := 0) (v := .ref a_mc) (C := "StepMachine$Memory") (T := TX0) (N := 1) hx hb hts inU_0 hown hK hP 0 rfl rfl 0 (by decide) (hts _ a_29) (fun _ h9 => h9) rfl d_Memo_putCell_8 ?_
    refine lv_iload_n hx hb d_Memo_putCell_11 rfl (lv_at hl 1 rfl) ?_
    refine lv_iconst (v := 2) hx hb d_Memo_putCell_12 (by decide) ?_
    refine lv_ishr hx hb d_Memo_putCell_13 ?_
    refine lv_iload_n hx hb d_Memo_putCell_14 rfl (lv_at hl 2 rfl) ?_
    refine va_iast hx hb hK hP hD hS 1 0 rfl rfl (ob_has c_4) d_Memo_putCell_15 (fun H locs hP hD hS => ?_)
    have hP : va_P D vwCl [(a_m, .inr (0, [.ref a_mc])), (a_mc, .inl (tc 0, 32768, .inl (upd v_mem (x0 >>> ((2 : Int32) &&& 31)).toNatClampNeg x1)))] H := hP
    have hD : va_D A [(a_m, .inr (0, [.ref a_mc])), (a_mc, .inl (tc 0, 32768, .inl (upd v_mem (x0 >>> ((2 : Int32) &&& 31)).toNatClampNeg x1)))] := hD
    exact W.vret hx hb hr (fun t ht hW => ⟨⟨(upd v_mem (x0 >>> ((2 : Int32) &&& 31)).toNatClampNeg x1), rfl, by rw [cF_Memory_putCell, if_neg c_4], by rw [ht]; exact hP, va_K.moved hW.alike hK, hD⟩, hS.F ht⟩) hS.2.2 d_Memo_putCell_16
def cF_Memory_putNumber_1  (q_33 : (Nat → Int32)) : (Nat → Int32) := q_33
def cF_Memory_putNumber (v_mem : Nat → Int32) (x0 : Int32) (x1 : Int32) (x2 : Int32) : (Nat → Int32) := (cF_Memory_putNumber_1 (cF_Memory_putCell v_mem x0 (((cF_Memory_cellOf v_mem x0) &&& (((cF_Memory_maskOf x1) <<< ((cF_Memory_shiftOf x0) &&& 31)) ^^^ (-1))) ||| ((x2 <<< ((cF_Memory_shiftOf x0) &&& 31)) &&& ((cF_Memory_maskOf x1) <<< ((cF_Memory_shiftOf x0) &&& 31))))))
set_option maxHeartbeats 4000000 in
set_option maxRecDepth 100000 in
theorem cc_Memory_putNumber (l : Launch) (D : va_G) (tc : Nat → ClassId) (tb : Nat → Nat) (z0 : Nat) (sz : Nat) (a_m a_mc : Nat) (v_mem : Nat → Int32) (x0 : Int32) (x1 : Int32) (x2 : Int32) : Met l y_Memo_putNumber (wM y_Memo_putNumber b_Memo_putNumber 5 none) ({ frames := 2, cells := 0, slots := 0, locals := 42 }) (va_Pc [.ref a_m, .int x0, .int x1, .int x2] (Pw D tc tb z0 [(a_m, .inr (0, [.ref a_mc])), (a_mc, .inl (tc 0, 32768, .inl v_mem))] sz)) (va_Qv (fun u : (Nat → Int32) => u = (cF_Memory_putNumber v_mem x0 x1 x2)) (Bw D tc (va_A [(a_m, .inr (0, [.ref a_mc])), (a_mc, .inl (tc 0, 32768, .inl v_mem))] sz) (fun u => [(a_m, .inr (0, [.ref a_mc])), (a_mc, .inl (tc 0, 32768, .inl u))])) (va_A [(a_m, .inr (0, [.ref a_mc])), (a_mc, .inl (tc 0, 32768, .inl v_mem))] sz)) 0 0 (va_A [(a_m, .inr (0, [.ref a_mc])), (a_mc, .inl (tc 0, 32768, .inl v_mem))] sz) := by
  refine Met.ofW (cc := b_Memo_putNumber) (maxL := 5) (ret := none) (by decide) rfl ?_
  intro p e s m args below meth c s₁ B hml hv
  obtain ⟨rfl, hsz, hP, hK, hB, hD0, hZ0⟩ := hv
  have hx := B.exec
  have hb := B.bytes
  have hr := B.returns
  have hts : ∀ w ∈ wALL, w.before _ s = true := fun w h => atoms_spec (ws := (wM y_Memo_putNumber b_Memo_putNumber 5 none)) B.pre w (List.mem_cons_of_mem _ h)
  have hown : s.vm.findClass "StepMachine$Memory" = some m.cls := findClass_of_methodNamed B.named
  have hlocks := B.notSynchronized
  subst hsz
  have hD := hD0.self (sz := s.heap.size)
  generalize hAe : va_A [(a_m, .inr (0, [.ref a_mc])), (a_mc, .inl (tc 0, 32768, .inl v_mem))] s.heap.size = A at hD ⊢
  have hZ : ∀ q : Nat, A q → z0 ≤ q := by rw [← hAe]; exact hZ0
  have hA : ∀ q : Nat, s.heap.size ≤ q → A q := fun q h => by rw [← hAe]; exact Or.inr h
  have hS : va_S A s.heap s.heap [] := va_S.rf
  have hl := lv_entry ([.ref a_m, .int x0, .int x1, .int x2]) (n := 5) (Nat.le_of_ble_eq_true rfl)
  rw [lg_entry_eq]
  generalize (lg_sl ([.ref a_m, .int x0, .int x1, .int x2]) ++ List.replicate (5 - (lg_sl ([.ref a_m, .int x0, .int x1, .int x2])).length) Slot.unset).toArray = ls at hl ⊢
  have hl : lv_has ls 5 [(0, .ref a_m), (1, .int x0), (2, .int x1), (3, .int x2)] := hl
  refine lv_iload_n hx hb d_Memo_putNumber_0 rfl (lv_at hl 2 rfl) ?_
  refine roSi (As := [.int x1]) (rest := []) ⟨hx, hb, hml, hown, hts⟩ (cc_Memory_maskOf l D tc tb z0 x1) (va_cwS 1 hts (goodS a_235 a_236 a_2 a_237) rfl rfl rfl hs_Memo_maskOf ⟨Nat.le_of_ble_eq_true rfl, Nat.le_of_ble_eq_true rfl⟩) (hP.sub [] rfl) hK (hB.kept hS hZ) rfl hl.1 rfl (Nat.le_of_ble_eq_true rfl) d_Memo_putNumber_1 ⟨Nat.zero_le _, Nat.zero_le _⟩ ?_
  refine lv_iload_n hx hb d_Memo_putNumber_4 rfl (lv_at hl 1 rfl) ?_
  refine roSi (As := [.int x0]) (rest := [.int (cF_Memory_maskOf x1)]) ⟨hx, hb, hml, hown, hts⟩ (cc_Memory_shiftOf l D tc tb z0 x0) (va_cwS 1 hts (goodS a_238 a_239 a_2 a_240) rfl rfl rfl hs_Memo_shiftOf ⟨Nat.le_of_ble_eq_true rfl, Nat.le_of_ble_eq_true rfl⟩) (hP.sub [] rfl) hK (hB.kept hS hZ) rfl hl.1 rfl (Nat.le_of_ble_eq_true rfl) d_Memo_putNumber_5 ⟨Nat.zero_le _, Nat.zero_le _⟩ ?_
  refine lv_ishl hx hb d_Memo_putNumber_8 ?_
  refine lv_istore (lv' := [(4, .int ((cF_Memory_maskOf x1) <<< ((cF_Memory_shiftOf x0) &&& 31))), (0, .ref a_m), (1, .int x0), (2, .int x1), (3, .int x2)]) hx hb d_Memo_putNumber_9 hl (by decide) rfl (fun ls hl => ?_)
  refine lv_aload_n hx hb d_Memo_putNumber_11 rfl (lv_at hl 1 rfl) ?_
  refine lv_iload_n hx hb d_Memo_putNumber_12 rfl (lv_at hl 2 rfl) ?_
  refine lv_aload_n hx hb d_Memo_putNumber_13 rfl (lv_at hl 1 rfl) ?_
  refine lv_iload_n hx hb d_Memo_putNumber_14 rfl (lv_at hl 2 rfl) ?_
  refine roVi (As := [.int x0]) (rest := [.int x0, .ref a_m]) ⟨hx, hb, hml, hown, hts⟩ (cc_Memory_cellOf l D tc tb z0 a_m a_mc v_mem x0) (cwV 1 hts (goodV a_241 a_242 a_243 a_2 a_244) rfl rfl rfl hv_Memo_cellOf ⟨Nat.le_of_ble_eq_true rfl, Nat.le_of_ble_eq_true rfl⟩) (hP.sub [0, 1] rfl) hK (hB.kept hS hZ) rfl rfl rfl hl.1 rfl (Nat.le_of_ble_eq_true rfl) d_Memo_putNumber_15 ⟨Nat.zero_le _, Nat.zero_le _⟩ ?_
  refine lv_iload hx hb d_Memo_putNumber_18 (lv_at hl 0 rfl) ?_
  refine lv_iconst (v := (-1)) hx hb d_Memo_putNumber_20 (by decide) ?_
  refine lv_ixor hx hb d_Memo_putNumber_21 ?_
  refine lv_iand hx hb d_Memo_putNumber_22 ?_
  refine lv_iload_n hx hb d_Memo_putNumber_23 rfl (lv_at hl 4 rfl) ?_
  refine lv_iload_n hx hb d_Memo_putNumber_24 rfl (lv_at hl 2 rfl) ?_
  refine roSi (As := [.int x0]) (rest := [.int x2, .int ((cF_Memory_cellOf v_mem x0) &&& (((cF_Memory_maskOf x1) <<< ((cF_Memory_shiftOf x0) &&& 31)) ^^^ (-1))), .int x0, .ref a_m]) ⟨hx, hb, hml, hown, hts⟩ (cc_Memory_shiftOf l D tc tb z0 x0) (va_cwS 1 hts (goodS a_238 a_239 a_2 a_240) rfl rfl rfl hs_Memo_shiftOf ⟨Nat.le_of_ble_eq_true rfl, Nat.le_of_ble_eq_true rfl⟩) (hP.sub [] rfl) hK (hB.kept hS hZ) rfl hl.1 rfl (Nat.le_of_ble_eq_true rfl) d_Memo_putNumber_25 ⟨Nat.zero_le _, Nat.zero_le _⟩ ?_
  refine lv_ishl hx hb d_Memo_putNumber_28 ?_
  refine lv_iload hx hb d_Memo_putNumber_29 (lv_at hl 0 rfl) ?_
  refine lv_iand hx hb d_Memo_putNumber_31 ?_
  refine lv_ior hx hb d_Memo_putNumber_32 ?_
  obtain ⟨q_33, e_33⟩ : ∃ z, z = (cF_Memory_putCell v_mem x0 (((cF_Memory_cellOf v_mem x0) &&& (((cF_Memory_maskOf x1) <<< ((cF_Memory_shiftOf x0) &&& 31)) ^^^ (-1))) ||| ((x2 <<< ((cF_Memory_shiftOf x0) &&& 31)) &&& ((cF_Memory_maskOf x1) <<< ((cF_Memory_shiftOf x0) &&& 31))))) := ⟨_, rfl⟩
  refine wVv (As := [.int x0, .int (((cF_Memory_cellOf v_mem x0) &&& (((cF_Memory_maskOf x1) <<< ((cF_Memory_shiftOf x0) &&& 31)) ^^^ (-1))) ||| ((x2 <<< ((cF_Memory_shiftOf x0) &&& 31)) &&& ((cF_Memory_maskOf x1) <<< ((cF_Memory_shiftOf x0) &&& 31))))]) (rest := []) e_33 ⟨hx, hb, hml, hown, hts⟩ (cc_Memory_putCell l D tc tb z0 _ a_m a_mc v_mem x0 (((cF_Memory_cellOf v_mem x0) &&& (((cF_Memory_maskOf x1) <<< ((cF_Memory_shiftOf x0) &&& 31)) ^^^ (-1))) ||| ((x2 <<< ((cF_Memory_shiftOf x0) &&& 31)) &&& ((cF_Memory_maskOf x1) <<< ((cF_Memory_shiftOf x0) &&& 31))))) (cwV 2 hts (goodV a_249 a_250 a_251 a_2 a_252) rfl rfl rfl hv_Memo_putCell ⟨Nat.le_of_ble_eq_true rfl, Nat.le_of_ble_eq_true rfl⟩) hP hD hS hA hZ hK hB [0, 1] rfl (by decide) (fun _ => rfl) rfl rfl rfl hl.1 rfl (Nat.le_of_ble_eq_true rfl) d_Memo_putNumber_33 ⟨Nat.zero_le _, Nat.zero_le _⟩ (fun H locs hP hD hS => ?_)
  have hP : va_P D vwCl [(a_m, .inr (0, [.ref a_mc])), (a_mc, .inl (tc 0, 32768, .inl q_33))] H := hP
  have hD : va_D A [(a_m, .inr (0, [.ref a_mc])), (a_mc, .inl (tc 0, 32768, .inl q_33))] := hD
  exact W.vret hx hb hr (fun t ht hW => ⟨⟨q_33, rfl, by rw [cF_Memory_putNumber, ← e_33, cF_Memory_putNumber_1], by rw [ht]; exact hP, va_K.moved hW.alike hK, hD⟩, hS.F ht⟩) hS.2.2 d_Memo_putNumber_36
