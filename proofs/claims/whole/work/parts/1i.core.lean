def cF_Core_putPc (v_pc : Int32) (x0 : Int32) : Int32 × Int32 := (if (x0 &&& 1) = 0 then (1, x0) else (0, v_pc))
set_option maxHeartbeats 4000000 in
set_option maxRecDepth 100000 in
theorem cc_Core_putPc (l : Launch) (D : va_G) (tc : Nat → ClassId) (tb : Nat → Nat) (z0 : Nat) (sz : Nat) (a_c a_m a_g a_p a_t a_w a_r : Nat) (v_pc : Int32) (v_st : Int32) (v_cu : Int32) (v_va : Int32) (v_sp : Int32) (v_un : Int32) (x0 : Int32) : Met l y_Core_putPc (wM y_Core_putPc b_Core_putPc 2 (some .boolean)) ({ frames := 0, cells := 0, slots := 0, locals := 0 }) (va_Pc [.ref a_c, .int x0] (Pw D tc tb z0 [(a_c, .inr (7, [.ref a_m, .ref a_g, .ref a_p, .ref a_t, .ref a_w, .ref a_r, .int v_pc, .int v_st, .int v_cu, .int v_va, .int v_sp, .int v_un]))] sz)) (va_Qi (fun (r : Int32) (u : Int32) => (r, u) = (cF_Core_putPc v_pc x0)) (Bw D tc (va_A [(a_c, .inr (7, [.ref a_m, .ref a_g, .ref a_p, .ref a_t, .ref a_w, .ref a_r, .int v_pc, .int v_st, .int v_cu, .int v_va, .int v_sp, .int v_un]))] sz) (fun u => [(a_c, .inr (7, [.ref a_m, .ref a_g, .ref a_p, .ref a_t, .ref a_w, .ref a_r, .int u, .int v_st, .int v_cu, .int v_va, .int v_sp, .int v_un]))])) (va_A [(a_c, .inr (7, [.ref a_m, .ref a_g, .ref a_p, .ref a_t, .ref a_w, .ref a_r, .int v_pc, .int v_st, .int v_cu, .int v_va, .int v_sp, .int v_un]))] sz)) 0 0 (va_A [(a_c, .inr (7, [.ref a_m, .ref a_g, .ref a_p, .ref a_t, .ref a_w, .ref a_r, .int v_pc, .int v_st, .int v_cu, .int v_va, .int v_sp, .int v_un]))] sz) := by
  refine Met.ofW (cc := b_Core_putPc) (maxL := 2) (ret := (some .boolean)) (by decide) rfl ?_
  intro p e s m args below meth c s₁ B hml hv
  obtain ⟨rfl, hsz, hP, hK, hB, hD0, hZ0⟩ := hv
  have hx := B.exec
  have hb := B.bytes
  have hr := B.returns
  have hts : ∀ w ∈ wALL, w.before _ s = true := fun w h => atoms_spec (ws := (wM y_Core_putPc b_Core_putPc 2 (some .boolean))) B.pre w (List.mem_cons_of_mem _ h)
  have hown : s.vm.findClass "StepMachine$Core" = some m.cls := findClass_of_methodNamed B.named
  have hlocks := B.notSynchronized
  subst hsz
  have hD := hD0.self (sz := s.heap.size)
  generalize hAe : va_A [(a_c, .inr (7, [.ref a_m, .ref a_g, .ref a_p, .ref a_t, .ref a_w, .ref a_r, .int v_pc, .int v_st, .int v_cu, .int v_va, .int v_sp, .int v_un]))] s.heap.size = A at hD ⊢
  have hZ : ∀ q : Nat, A q → z0 ≤ q := by rw [← hAe]; exact hZ0
  have hA : ∀ q : Nat, s.heap.size ≤ q → A q := fun q h => by rw [← hAe]; exact Or.inr h
  have hS : va_S A s.heap s.heap [] := va_S.rf
  have hl := lv_entry ([.ref a_c, .int x0]) (n := 2) (Nat.le_of_ble_eq_true rfl)
  rw [lg_entry_eq]
  generalize (lg_sl ([.ref a_c, .int x0]) ++ List.replicate (2 - (lg_sl ([.ref a_c, .int x0])).length) Slot.unset).toArray = ls at hl ⊢
  have hl : lv_has ls 2 [(0, .ref a_c), (1, .int x0)] := hl
  refine lv_iload_n hx hb d_Core_putPc_0 rfl (lv_at hl 1 rfl) ?_
  refine lv_iconst (v := 1) hx hb d_Core_putPc_1 (by decide) ?_
  refine lv_iand hx hb d_Core_putPc_2 ?_
  refine lv_if_eq (tgt := 8) hx hb d_Core_putPc_3 (by decide) (fun c_3 => ?_) (fun c_3 => ?_)
  · skip
    refine lv_aload_n hx hb d_Core_putPc_8 rfl (lv_at hl 0 rfl) ?_
    refine lv_iload_n hx hb d_Core_putPc_9 rfl (lv_at hl 1 rfl) ?_
    refine va_put (D := D) (ci := 7) (v := .int x0) (ty := .int) (C := "StepMachine$Core") (T := TX7) (N := 12) hx hb hts inU_7 tyX7 tyX7_ok nmX7 hown hK hP hD hS 0 rfl rfl 6 (by decide) (hts _ a_156) (fun _ h9 => h9) rfl (by decide +kernel) rfl rfl (Nat.le_of_ble_eq_true rfl) d_Core_putPc_10 (fun H locs hP hD hS => ?_)
    have hP : va_P D vwCl [(a_c, .inr (7, [.ref a_m, .ref a_g, .ref a_p, .ref a_t, .ref a_w, .ref a_r, .int x0, .int v_st, .int v_cu, .int v_va, .int v_sp, .int v_un]))] H := hP
    have hD : va_D A [(a_c, .inr (7, [.ref a_m, .ref a_g, .ref a_p, .ref a_t, .ref a_w, .ref a_r, .int x0, .int v_st, .int v_cu, .int v_va, .int v_sp, .int v_un]))] := hD
    refine lv_iconst (v := 1) hx hb d_Core_putPc_13 (by decide) ?_
    exact W.zret (v := 1) hx hb hr rfl (fun t ht hW => ⟨⟨_, x0, rfl, by rw [cF_Core_putPc, if_pos c_3], by rw [ht]; exact hP, va_K.moved hW.alike hK, hD⟩, hS.F ht⟩) hS.2.2 d_Core_putPc_14
  · skip
    refine lv_iconst (v := 0) hx hb d_Core_putPc_6 (by decide) ?_
    exact W.zret (v := 0) hx hb hr rfl (fun t ht hW => ⟨⟨_, v_pc, rfl, by rw [cF_Core_putPc, if_neg c_3], by rw [ht]; exact hP, va_K.moved hW.alike hK, hD⟩, hS.F ht⟩) hS.2.2 d_Core_putPc_7
theorem ob_reg {x : Int32} (h1 : ¬ x ≤ 0) (h2 : ¬ 32 ≤ x) : vp_in x 32 := by
  have a1 := ob_nle h1
  have a2 := ob_nle h2
  have e1 : (0 : Int32).toInt = 0 := by decide
  have e2 : (32 : Int32).toInt = 32 := by decide
  rw [vp_in_iff]
  omega
theorem ob_regp {x : Int32} (h1 : ¬ x < 1) (h2 : x < 32) : vp_in x 32 := by
  have a1 := ob_nlt h1
  have a2 := Int32.lt_iff_toInt_lt.mp h2
  have e1 : (1 : Int32).toInt = 1 := by decide
  have e2 : (32 : Int32).toInt = 32 := by decide
  rw [vp_in_iff]
  omega
def cF_Core_register (v_reg : Nat → Int32) (x0 : Int32) : Int32 := (if x0 ≤ 0 then 0 else (if 32 ≤ x0 then 0 else (v_reg x0.toNatClampNeg)))
set_option maxHeartbeats 4000000 in
set_option maxRecDepth 100000 in
theorem cc_Core_register (l : Launch) (D : va_G) (tc : Nat → ClassId) (tb : Nat → Nat) (z0 : Nat) (a_c a_r a_m a_g a_p a_t a_w : Nat) (v_pc : Int32) (v_st : Int32) (v_cu : Int32) (v_va : Int32) (v_sp : Int32) (v_un : Int32) (v_reg : Nat → Int32) (x0 : Int32) : Met l y_Core_register (wM y_Core_register b_Core_register 2 (some .int)) ({ frames := 0, cells := 0, slots := 0, locals := 0 }) (va_Pc [.ref a_c, .int x0] (Pr D tc tb z0 [(a_c, .inr (7, [.ref a_m, .ref a_g, .ref a_p, .ref a_t, .ref a_w, .ref a_r, .int v_pc, .int v_st, .int v_cu, .int v_va, .int v_sp, .int v_un])), (a_r, .inl (tc 0, 32, .inl v_reg))])) (vp_Si (fun r => r = (cF_Core_register v_reg x0))) 0 0 (fun _ => False) := by
  refine Met.ofW (cc := b_Core_register) (maxL := 2) (ret := (some .int)) (by decide) rfl ?_
  intro p e s m args below meth c s₁ B hml hv
  obtain ⟨rfl, hP, hK, hB⟩ := hv
  have hx := B.exec
  have hb := B.bytes
  have hr := B.returns
  have hts : ∀ w ∈ wALL, w.before _ s = true := fun w h => atoms_spec (ws := (wM y_Core_register b_Core_register 2 (some .int))) B.pre w (List.mem_cons_of_mem _ h)
  have hown : s.vm.findClass "StepMachine$Core" = some m.cls := findClass_of_methodNamed B.named
  have hlocks := B.notSynchronized
  have hl := lv_entry ([.ref a_c, .int x0]) (n := 2) (Nat.le_of_ble_eq_true rfl)
  rw [lg_entry_eq]
  generalize (lg_sl ([.ref a_c, .int x0]) ++ List.replicate (2 - (lg_sl ([.ref a_c, .int x0])).length) Slot.unset).toArray = ls at hl ⊢
  have hl : lv_has ls 2 [(0, .ref a_c), (1, .int x0)] := hl
  refine lv_iload_n hx hb d_Core_register_0 rfl (lv_at hl 1 rfl) ?_
  refine lv_if_le (tgt := 19) hx hb d_Core_register_1 (by decide) (fun c_1 => ?_) (fun c_1 => ?_)
  · skip
    refine lv_iconst (v := 0) hx hb d_Core_register_19 (by decide) ?_
    exact W.iret (v := 0) hx hb hr (fun t ht hW => ⟨_, rfl, by rw [cF_Core_register, if_pos c_1], ht⟩) (fun q h => by cases h) d_Core_register_20
  · skip
    refine lv_iload_n hx hb d_Core_register_4 rfl (lv_at hl 1 rfl) ?_
    refine lv_bipush (v := 32) hx hb d_Core_register_5 (by decide) ?_
    refine lv_icmp_ge (tgt := 19) hx hb d_Core_register_7 (by decide) (fun c_7 => ?_) (fun c_7 => ?_)
    · skip
      refine lv_iconst (v := 0) hx hb d_Core_register_19 (by decide) ?_
      exact W.iret (v := 0) hx hb hr (fun t ht hW => ⟨_, rfl, by rw [cF_Core_register, if_neg c_1, if_pos c_7], ht⟩) (fun q h => by cases h) d_Core_register_20
    · skip
      refine lv_aload_n hx hb d_Core_register_10 rfl (lv_at hl 0 rfl) ?_
      refine va_get (D := D) (ci := 7) (v := .ref a_r) (C := "StepMachine$Core") (T := TX7) (N := 12) hx hb hts inU_7 hown hK hP 0 rfl rfl 5 (by decide) (hts _ a_155) (fun _ h9 => h9) rfl d_Core_register_11 ?_
      refine lv_iload_n hx hb d_Core_register_14 rfl (lv_at hl 1 rfl) ?_
      refine va_iald hx hb hK hP 1 0 rfl rfl (ob_reg c_1 c_7) d_Core_register_15 ?_
      refine lv_goto (tgt := 20) hx hb d_Core_register_16 (by decide) ?_
      exact W.iret (v := (v_reg x0.toNatClampNeg)) hx hb hr (fun t ht hW => ⟨_, rfl, by rw [cF_Core_register, if_neg c_1, if_neg c_7], ht⟩) (fun q h => by cases h) d_Core_register_20
def cF_Core_putRegister (v_reg : Nat → Int32) (x0 : Int32) (x1 : Int32) : Int32 × (Nat → Int32) := (if x0 < 1 then (0, v_reg) else (if x0 < 32 then (1, (upd v_reg x0.toNatClampNeg x1)) else (0, v_reg)))
set_option maxHeartbeats 4000000 in
set_option maxRecDepth 100000 in
theorem cc_Core_putRegister (l : Launch) (D : va_G) (tc : Nat → ClassId) (tb : Nat → Nat) (z0 : Nat) (sz : Nat) (a_c a_r a_m a_g a_p a_t a_w : Nat) (v_pc : Int32) (v_st : Int32) (v_cu : Int32) (v_va : Int32) (v_sp : Int32) (v_un : Int32) (v_reg : Nat → Int32) (x0 : Int32) (x1 : Int32) : Met l y_Core_putRegister (wM y_Core_putRegister b_Core_putRegister 3 (some .boolean)) ({ frames := 0, cells := 0, slots := 0, locals := 0 }) (va_Pc [.ref a_c, .int x0, .int x1] (Pw D tc tb z0 [(a_c, .inr (7, [.ref a_m, .ref a_g, .ref a_p, .ref a_t, .ref a_w, .ref a_r, .int v_pc, .int v_st, .int v_cu, .int v_va, .int v_sp, .int v_un])), (a_r, .inl (tc 0, 32, .inl v_reg))] sz)) (va_Qi (fun (r : Int32) (u : (Nat → Int32)) => (r, u) = (cF_Core_putRegister v_reg x0 x1)) (Bw D tc (va_A [(a_c, .inr (7, [.ref a_m, .ref a_g, .ref a_p, .ref a_t, .ref a_w, .ref a_r, .int v_pc, .int v_st, .int v_cu, .int v_va, .int v_sp, .int v_un])), (a_r, .inl (tc 0, 32, .inl v_reg))] sz) (fun u => [(a_c, .inr (7, [.ref a_m, .ref a_g, .ref a_p, .ref a_t, .ref a_w, .ref a_r, .int v_pc, .int v_st, .int v_cu, .int v_va, .int v_sp, .int v_un])), (a_r, .inl (tc 0, 32, .inl u))])) (va_A [(a_c, .inr (7, [.ref a_m, .ref a_g, .ref a_p, .ref a_t, .ref a_w, .ref a_r, .int v_pc, .int v_st, .int v_cu, .int v_va, .int v_sp, .int v_un])), (a_r, .inl (tc 0, 32, .inl v_reg))] sz)) 0 0 (va_A [(a_c, .inr (7, [.ref a_m, .ref a_g, .ref a_p, .ref a_t, .ref a_w, .ref a_r, .int v_pc, .int v_st, .int v_cu, .int v_va, .int v_sp, .int v_un])), (a_r, .inl (tc 0, 32, .inl v_reg))] sz) := by
  refine Met.ofW (cc := b_Core_putRegister) (maxL := 3) (ret := (some .boolean)) (by decide) rfl ?_
  intro p e s m args below meth c s₁ B hml hv
  obtain ⟨rfl, hsz, hP, hK, hB, hD0, hZ0⟩ := hv
  have hx := B.exec
  have hb := B.bytes
  have hr := B.returns
  have hts : ∀ w ∈ wALL, w.before _ s = true := fun w h => atoms_spec (ws := (wM y_Core_putRegister b_Core_putRegister 3 (some .boolean))) B.pre w (List.mem_cons_of_mem _ h)
  have hown : s.vm.findClass "StepMachine$Core" = some m.cls := findClass_of_methodNamed B.named
  have hlocks := B.notSynchronized
  subst hsz
  have hD := hD0.self (sz := s.heap.size)
  generalize hAe : va_A [(a_c, .inr (7, [.ref a_m, .ref a_g, .ref a_p, .ref a_t, .ref a_w, .ref a_r, .int v_pc, .int v_st, .int v_cu, .int v_va, .int v_sp, .int v_un])), (a_r, .inl (tc 0, 32, .inl v_reg))] s.heap.size = A at hD ⊢
  have hZ : ∀ q : Nat, A q → z0 ≤ q := by rw [← hAe]; exact hZ0
  have hA : ∀ q : Nat, s.heap.size ≤ q → A q := fun q h => by rw [← hAe]; exact Or.inr h
  have hS : va_S A s.heap s.heap [] := va_S.rf
  have hl := lv_entry ([.ref a_c, .int x0, .int x1]) (n := 3) (Nat.le_of_ble_eq_true rfl)
  rw [lg_entry_eq]
  generalize (lg_sl ([.ref a_c, .int x0, .int x1]) ++ List.replicate (3 - (lg_sl ([.ref a_c, .int x0, .int x1])).length) Slot.unset).toArray = ls at hl ⊢
  have hl : lv_has ls 3 [(0, .ref a_c), (1, .int x0), (2, .int x1)] := hl
  refine lv_iload_n hx hb d_Core_putRegister_0 rfl (lv_at hl 1 rfl) ?_
  refine lv_iconst (v := 1) hx hb d_Core_putRegister_1 (by decide) ?_
  refine lv_icmp_lt (tgt := 11) hx hb d_Core_putRegister_2 (by decide) (fun c_2 => ?_) (fun c_2 => ?_)
  · skip
    refine lv_iconst (v := 0) hx hb d_Core_putRegister_11 (by decide) ?_
    exact W.zret (v := 0) hx hb hr rfl (fun t ht hW => ⟨⟨_, v_reg, rfl, by rw [cF_Core_putRegister, if_pos c_2], by rw [ht]; exact hP, va_K.moved hW.alike hK, hD⟩, hS.F ht⟩) hS.2.2 d_Core_putRegister_12
  · skip
    refine lv_iload_n hx hb d_Core_putRegister_5 rfl (lv_at hl 1 rfl) ?_
    refine lv_bipush (v := 32) hx hb d_Core_putRegister_6 (by decide) ?_
    refine lv_icmp_lt (tgt := 13) hx hb d_Core_putRegister_8 (by decide) (fun c_8 => ?_) (fun c_8 => ?_)
    · skip
      refine lv_aload_n hx hb d_Core_putRegister_13 rfl (lv_at hl 0 rfl) ?_
      refine va_get (D := D) (ci := 7) (v := .ref a_r) (C := "StepMachine$Core") (T := TX7) (N := 12) hx hb hts inU_7 hown hK hP 0 rfl rfl 5 (by decide) (hts _ a_155) (fun _ h9 => h9) rfl d_Core_putRegister_14 ?_
      refine lv_iload_n hx hb d_Core_putRegister_17 rfl (lv_at hl 1 rfl) ?_
      refine lv_iload_n hx hb d_Core_putRegister_18 rfl (lv_at hl 2 rfl) ?_
      refine va_iast hx hb hK hP hD hS 1 0 rfl rfl (ob_regp c_2 c_8) d_Core_putRegister_19 (fun H locs hP hD hS => ?_)
      have hP : va_P D vwCl [(a_c, .inr (7, [.ref a_m, .ref a_g, .ref a_p, .ref a_t, .ref a_w, .ref a_r, .int v_pc, .int v_st, .int v_cu, .int v_va, .int v_sp, .int v_un])), (a_r, .inl (tc 0, 32, .inl (upd v_reg x0.toNatClampNeg x1)))] H := hP
      have hD : va_D A [(a_c, .inr (7, [.ref a_m, .ref a_g, .ref a_p, .ref a_t, .ref a_w, .ref a_r, .int v_pc, .int v_st, .int v_cu, .int v_va, .int v_sp, .int v_un])), (a_r, .inl (tc 0, 32, .inl (upd v_reg x0.toNatClampNeg x1)))] := hD
      refine lv_iconst (v := 1) hx hb d_Core_putRegister_20 (by decide) ?_
      exact W.zret (v := 1) hx hb hr rfl (fun t ht hW => ⟨⟨_, (upd v_reg x0.toNatClampNeg x1), rfl, by rw [cF_Core_putRegister, if_neg c_2, if_pos c_8], by rw [ht]; exact hP, va_K.moved hW.alike hK, hD⟩, hS.F ht⟩) hS.2.2 d_Core_putRegister_21
    · skip
      refine lv_iconst (v := 0) hx hb d_Core_putRegister_11 (by decide) ?_
      exact W.zret (v := 0) hx hb hr rfl (fun t ht hW => ⟨⟨_, v_reg, rfl, by rw [cF_Core_putRegister, if_neg c_2, if_neg c_8], by rw [ht]; exact hP, va_K.moved hW.alike hK, hD⟩, hS.F ht⟩) hS.2.2 d_Core_putRegister_12
def cF_Core_become (x0 : Int32) (x1 : Int32) : Int32 × Int32 := (x0, x1)
set_option maxHeartbeats 4000000 in
set_option maxRecDepth 100000 in
theorem cc_Core_become (l : Launch) (D : va_G) (tc : Nat → ClassId) (tb : Nat → Nat) (z0 : Nat) (sz : Nat) (a_c a_m a_g a_p a_t a_w a_r : Nat) (v_pc : Int32) (v_st : Int32) (v_cu : Int32) (v_va : Int32) (v_sp : Int32) (v_un : Int32) (x0 : Int32) (x1 : Int32) : Met l y_Core_become (wM y_Core_become b_Core_become 3 none) ({ frames := 0, cells := 0, slots := 0, locals := 0 }) (va_Pc [.ref a_c, .int x0, .int x1] (Pw D tc tb z0 [(a_c, .inr (7, [.ref a_m, .ref a_g, .ref a_p, .ref a_t, .ref a_w, .ref a_r, .int v_pc, .int v_st, .int v_cu, .int v_va, .int v_sp, .int v_un]))] sz)) (va_Qv (fun u : Int32 × Int32 => u = (cF_Core_become x0 x1)) (Bw D tc (va_A [(a_c, .inr (7, [.ref a_m, .ref a_g, .ref a_p, .ref a_t, .ref a_w, .ref a_r, .int v_pc, .int v_st, .int v_cu, .int v_va, .int v_sp, .int v_un]))] sz) (fun u => [(a_c, .inr (7, [.ref a_m, .ref a_g, .ref a_p, .ref a_t, .ref a_w, .ref a_r, .int v_pc, .int u.1, .int u.2, .int v_va, .int v_sp, .int v_un]))])) (va_A [(a_c, .inr (7, [.ref a_m, .ref a_g, .ref a_p, .ref a_t, .ref a_w, .ref a_r, .int v_pc, .int v_st, .int v_cu, .int v_va, .int v_sp, .int v_un]))] sz)) 0 0 (va_A [(a_c, .inr (7, [.ref a_m, .ref a_g, .ref a_p, .ref a_t, .ref a_w, .ref a_r, .int v_pc, .int v_st, .int v_cu, .int v_va, .int v_sp, .int v_un]))] sz) := by
  refine Met.ofW (cc := b_Core_become) (maxL := 3) (ret := none) (by decide) rfl ?_
  intro p e s m args below meth c s₁ B hml hv
  obtain ⟨rfl, hsz, hP, hK, hB, hD0, hZ0⟩ := hv
  have hx := B.exec
  have hb := B.bytes
  have hr := B.returns
  have hts : ∀ w ∈ wALL, w.before _ s = true := fun w h => atoms_spec (ws := (wM y_Core_become b_Core_become 3 none)) B.pre w (List.mem_cons_of_mem _ h)
  have hown : s.vm.findClass "StepMachine$Core" = some m.cls := findClass_of_methodNamed B.named
  have hlocks := B.notSynchronized
  subst hsz
  have hD := hD0.self (sz := s.heap.size)
  generalize hAe : va_A [(a_c, .inr (7, [.ref a_m, .ref a_g, .ref a_p, .ref a_t, .ref a_w, .ref a_r, .int v_pc, .int v_st, .int v_cu, .int v_va, .int v_sp, .int v_un]))] s.heap.size = A at hD ⊢
  have hZ : ∀ q : Nat, A q → z0 ≤ q := by rw [← hAe]; exact hZ0
  have hA : ∀ q : Nat, s.heap.size ≤ q → A q := fun q h => by rw [← hAe]; exact Or.inr h
  have hS : va_S A s.heap s.heap [] := va_S.rf
  have hl := lv_entry ([.ref a_c, .int x0, .int x1]) (n := 3) (Nat.le_of_ble_eq_true rfl)
  rw [lg_entry_eq]
  generalize (lg_sl ([.ref a_c, .int x0, .int x1]) ++ List.replicate (3 - (lg_sl ([.ref a_c, .int x0, .int x1])).length) Slot.unset).toArray = ls at hl ⊢
  have hl : lv_has ls 3 [(0, .ref a_c), (1, .int x0), (2, .int x1)] := hl
  refine lv_aload_n hx hb d_Core_become_0 rfl (lv_at hl 0 rfl) ?_
  refine lv_iload_n hx hb d_Core_become_1 rfl (lv_at hl 1 rfl) ?_
  refine va_put (D := D) (ci := 7) (v := .int x0) (ty := .int) (C := "StepMachine$Core") (T := TX7) (N := 12) hx hb hts inU_7 tyX7 tyX7_ok nmX7 hown hK hP hD hS 0 rfl rfl 7 (by decide) (hts _ a_158) (fun _ h9 => h9) rfl (by decide +kernel) rfl rfl (Nat.le_of_ble_eq_true rfl) d_Core_become_2 (fun H locs hP hD hS => ?_)
  have hP : va_P D vwCl [(a_c, .inr (7, [.ref a_m, .ref a_g, .ref a_p, .ref a_t, .ref a_w, .ref a_r, .int v_pc, .int x0, .int v_cu, .int v_va, .int v_sp, .int v_un]))] H := hP
  have hD : va_D A [(a_c, .inr (7, [.ref a_m, .ref a_g, .ref a_p, .ref a_t, .ref a_w, .ref a_r, .int v_pc, .int x0, .int v_cu, .int v_va, .int v_sp, .int v_un]))] := hD
  refine lv_aload_n hx hb d_Core_become_5 rfl (lv_at hl 0 rfl) ?_
  refine lv_iload_n hx hb d_Core_become_6 rfl (lv_at hl 2 rfl) ?_
  refine va_put (D := D) (ci := 7) (v := .int x1) (ty := .int) (C := "StepMachine$Core") (T := TX7) (N := 12) hx hb hts inU_7 tyX7 tyX7_ok nmX7 hown hK hP hD hS 0 rfl rfl 8 (by decide) (hts _ a_160) (fun _ h9 => h9) rfl (by decide +kernel) rfl rfl (Nat.le_of_ble_eq_true rfl) d_Core_become_7 (fun H locs hP hD hS => ?_)
  have hP : va_P D vwCl [(a_c, .inr (7, [.ref a_m, .ref a_g, .ref a_p, .ref a_t, .ref a_w, .ref a_r, .int v_pc, .int x0, .int x1, .int v_va, .int v_sp, .int v_un]))] H := hP
  have hD : va_D A [(a_c, .inr (7, [.ref a_m, .ref a_g, .ref a_p, .ref a_t, .ref a_w, .ref a_r, .int v_pc, .int x0, .int x1, .int v_va, .int v_sp, .int v_un]))] := hD
  exact W.vret hx hb hr (fun t ht hW => ⟨⟨(x0, x1), rfl, by rw [cF_Core_become], by rw [ht]; exact hP, va_K.moved hW.alike hK, hD⟩, hS.F ht⟩) hS.2.2 d_Core_become_10
def cF_Core_hasEnded (v_st : Int32) : Int32 := (if v_st = 0 then 0 else (if v_st = 9 then 0 else 1))
set_option maxHeartbeats 4000000 in
set_option maxRecDepth 100000 in
theorem cc_Core_hasEnded (l : Launch) (D : va_G) (tc : Nat → ClassId) (tb : Nat → Nat) (z0 : Nat) (a_c a_m a_g a_p a_t a_w a_r : Nat) (v_pc : Int32) (v_st : Int32) (v_cu : Int32) (v_va : Int32) (v_sp : Int32) (v_un : Int32) : Met l y_Core_hasEnded (wM y_Core_hasEnded b_Core_hasEnded 1 (some .boolean)) ({ frames := 0, cells := 0, slots := 0, locals := 0 }) (va_Pc [.ref a_c] (Pr D tc tb z0 [(a_c, .inr (7, [.ref a_m, .ref a_g, .ref a_p, .ref a_t, .ref a_w, .ref a_r, .int v_pc, .int v_st, .int v_cu, .int v_va, .int v_sp, .int v_un]))])) (vp_Si (fun r => r = (cF_Core_hasEnded v_st))) 0 0 (fun _ => False) := by
  refine Met.ofW (cc := b_Core_hasEnded) (maxL := 1) (ret := (some .boolean)) (by decide) rfl ?_
  intro p e s m args below meth c s₁ B hml hv
  obtain ⟨rfl, hP, hK, hB⟩ := hv
  have hx := B.exec
  have hb := B.bytes
  have hr := B.returns
  have hts : ∀ w ∈ wALL, w.before _ s = true := fun w h => atoms_spec (ws := (wM y_Core_hasEnded b_Core_hasEnded 1 (some .boolean))) B.pre w (List.mem_cons_of_mem _ h)
  have hown : s.vm.findClass "StepMachine$Core" = some m.cls := findClass_of_methodNamed B.named
  have hlocks := B.notSynchronized
  have hl := lv_entry ([.ref a_c]) (n := 1) (Nat.le_of_ble_eq_true rfl)
  rw [lg_entry_eq]
  generalize (lg_sl ([.ref a_c]) ++ List.replicate (1 - (lg_sl ([.ref a_c])).length) Slot.unset).toArray = ls at hl ⊢
  have hl : lv_has ls 1 [(0, .ref a_c)] := hl
  refine lv_aload_n hx hb d_Core_hasEnded_0 rfl (lv_at hl 0 rfl) ?_
  refine va_get (D := D) (ci := 7) (v := .int v_st) (C := "StepMachine$Core") (T := TX7) (N := 12) hx hb hts inU_7 hown hK hP 0 rfl rfl 7 (by decide) (hts _ a_158) (fun _ h9 => h9) rfl d_Core_hasEnded_1 ?_
  refine lv_if_eq (tgt := 20) hx hb d_Core_hasEnded_4 (by decide) (fun c_4 => ?_) (fun c_4 => ?_)
  · skip
    refine lv_iconst (v := 0) hx hb d_Core_hasEnded_20 (by decide) ?_
    exact W.zret (v := 0) hx hb hr rfl (fun t ht hW => ⟨_, rfl, by rw [cF_Core_hasEnded, if_pos c_4], ht⟩) (fun q h => by cases h) d_Core_hasEnded_21
  · skip
    refine lv_aload_n hx hb d_Core_hasEnded_7 rfl (lv_at hl 0 rfl) ?_
    refine va_get (D := D) (ci := 7) (v := .int v_st) (C := "StepMachine$Core") (T := TX7) (N := 12) hx hb hts inU_7 hown hK hP 0 rfl rfl 7 (by decide) (hts _ a_158) (fun _ h9 => h9) rfl d_Core_hasEnded_8 ?_
    refine lv_bipush (v := 9) hx hb d_Core_hasEnded_11 (by decide) ?_
    refine lv_icmp_eq (tgt := 20) hx hb d_Core_hasEnded_13 (by decide) (fun c_13 => ?_) (fun c_13 => ?_)
    · skip
      refine lv_iconst (v := 0) hx hb d_Core_hasEnded_20 (by decide) ?_
      exact W.zret (v := 0) hx hb hr rfl (fun t ht hW => ⟨_, rfl, by rw [cF_Core_hasEnded, if_neg c_4, if_pos c_13], ht⟩) (fun q h => by cases h) d_Core_hasEnded_21
    · skip
      refine lv_iconst (v := 1) hx hb d_Core_hasEnded_16 (by decide) ?_
      refine lv_goto (tgt := 21) hx hb d_Core_hasEnded_17 (by decide) ?_
      exact W.zret (v := 1) hx hb hr rfl (fun t ht hW => ⟨_, rfl, by rw [cF_Core_hasEnded, if_neg c_4, if_neg c_13], ht⟩) (fun q h => by cases h) d_Core_hasEnded_21
def cF_Core_beginsUnit (v_pc : Int32) (v_on : Int32) (v_mrk : Nat → Int32) : Int32 := (if v_on = 0 then 1 else (if (cF_Guard_isMarked v_mrk v_pc) = 0 then 0 else 1))
set_option maxHeartbeats 4000000 in
set_option maxRecDepth 100000 in
theorem cc_Core_beginsUnit (l : Launch) (D : va_G) (tc : Nat → ClassId) (tb : Nat → Nat) (z0 : Nat) (a_c a_g a_gm a_m a_p a_t a_w a_r a_gb a_gs a_ga : Nat) (v_pc : Int32) (v_st : Int32) (v_cu : Int32) (v_va : Int32) (v_sp : Int32) (v_un : Int32) (v_on : Int32) (v_mrk : Nat → Int32) : Met l y_Core_beginsUnit (wM y_Core_beginsUnit b_Core_beginsUnit 1 (some .boolean)) ({ frames := 2, cells := 0, slots := 0, locals := 41 }) (va_Pc [.ref a_c] (Pr D tc tb z0 [(a_c, .inr (7, [.ref a_m, .ref a_g, .ref a_p, .ref a_t, .ref a_w, .ref a_r, .int v_pc, .int v_st, .int v_cu, .int v_va, .int v_sp, .int v_un])), (a_g, .inr (1, [.ref a_gb, .ref a_gs, .ref a_ga, .ref a_gm, .int v_on])), (a_gm, .inl (tc 0, 2048, .inl v_mrk))])) (vp_Si (fun r => r = (cF_Core_beginsUnit v_pc v_on v_mrk))) 0 0 (fun _ => False) := by
  refine Met.ofW (cc := b_Core_beginsUnit) (maxL := 1) (ret := (some .boolean)) (by decide) rfl ?_
  intro p e s m args below meth c s₁ B hml hv
  obtain ⟨rfl, hP, hK, hB⟩ := hv
  have hx := B.exec
  have hb := B.bytes
  have hr := B.returns
  have hts : ∀ w ∈ wALL, w.before _ s = true := fun w h => atoms_spec (ws := (wM y_Core_beginsUnit b_Core_beginsUnit 1 (some .boolean))) B.pre w (List.mem_cons_of_mem _ h)
  have hown : s.vm.findClass "StepMachine$Core" = some m.cls := findClass_of_methodNamed B.named
  have hlocks := B.notSynchronized
  have hl := lv_entry ([.ref a_c]) (n := 1) (Nat.le_of_ble_eq_true rfl)
  rw [lg_entry_eq]
  generalize (lg_sl ([.ref a_c]) ++ List.replicate (1 - (lg_sl ([.ref a_c])).length) Slot.unset).toArray = ls at hl ⊢
  have hl : lv_has ls 1 [(0, .ref a_c)] := hl
  refine lv_aload_n hx hb d_Core_beginsUnit_0 rfl (lv_at hl 0 rfl) ?_
  refine va_get (D := D) (ci := 7) (v := .ref a_g) (C := "StepMachine$Core") (T := TX7) (N := 12) hx hb hts inU_7 hown hK hP 0 rfl rfl 1 (by decide) (hts _ a_151) (fun _ h9 => h9) rfl d_Core_beginsUnit_1 ?_
  refine va_get (D := D) (ci := 1) (v := .int v_on) (C := "StepMachine$Guard") (T := TX1) (N := 5) hx hb hts inU_1 hown hK hP 1 rfl rfl 4 (by decide) (hts _ a_42) (fun _ h9 => h9) rfl d_Core_beginsUnit_4 ?_
  refine lv_if_eq (tgt := 24) hx hb d_Core_beginsUnit_7 (by decide) (fun c_7 => ?_) (fun c_7 => ?_)
  · skip
    refine lv_iconst (v := 1) hx hb d_Core_beginsUnit_24 (by decide) ?_
    refine lv_goto (tgt := 29) hx hb d_Core_beginsUnit_25 (by decide) ?_
    exact W.zret (v := 1) hx hb hr rfl (fun t ht hW => ⟨_, rfl, by rw [cF_Core_beginsUnit, if_pos c_7], ht⟩) (fun q h => by cases h) d_Core_beginsUnit_29
  · skip
    refine lv_aload_n hx hb d_Core_beginsUnit_10 rfl (lv_at hl 0 rfl) ?_
    refine va_get (D := D) (ci := 7) (v := .ref a_g) (C := "StepMachine$Core") (T := TX7) (N := 12) hx hb hts inU_7 hown hK hP 0 rfl rfl 1 (by decide) (hts _ a_151) (fun _ h9 => h9) rfl d_Core_beginsUnit_11 ?_
    refine lv_aload_n hx hb d_Core_beginsUnit_14 rfl (lv_at hl 0 rfl) ?_
    refine va_get (D := D) (ci := 7) (v := .int v_pc) (C := "StepMachine$Core") (T := TX7) (N := 12) hx hb hts inU_7 hown hK hP 0 rfl rfl 6 (by decide) (hts _ a_156) (fun _ h9 => h9) rfl d_Core_beginsUnit_15 ?_
    refine roVi (As := [.int v_pc]) (rest := []) ⟨hx, hb, hml, hown, hts⟩ (cc_Guard_isMarked l D tc tb z0 a_g a_gm a_gb a_gs a_ga v_on v_mrk v_pc) (cwV 1 hts (goodV a_474 a_475 a_476 a_3 a_477) rfl rfl rfl hv_Guar_isMarked ⟨Nat.le_of_ble_eq_true rfl, Nat.le_of_ble_eq_true rfl⟩) (hP.sub [1, 2] rfl) hK hB rfl rfl rfl hl.1 rfl (Nat.le_of_ble_eq_true rfl) d_Core_beginsUnit_18 ⟨Nat.zero_le _, Nat.zero_le _⟩ ?_
    refine lv_if_eq (tgt := 28) hx hb d_Core_beginsUnit_21 (by decide) (fun c_21 => ?_) (fun c_21 => ?_)
    · skip
      refine lv_iconst (v := 0) hx hb d_Core_beginsUnit_28 (by decide) ?_
      exact W.zret (v := 0) hx hb hr rfl (fun t ht hW => ⟨_, rfl, by rw [cF_Core_beginsUnit, if_neg c_7, if_pos c_21], ht⟩) (fun q h => by cases h) d_Core_beginsUnit_29
    · skip
      refine lv_iconst (v := 1) hx hb d_Core_beginsUnit_24 (by decide) ?_
      refine lv_goto (tgt := 29) hx hb d_Core_beginsUnit_25 (by decide) ?_
      exact W.zret (v := 1) hx hb hr rfl (fun t ht hW => ⟨_, rfl, by rw [cF_Core_beginsUnit, if_neg c_7, if_neg c_21], ht⟩) (fun q h => by cases h) d_Core_beginsUnit_29
def cF_Core_goOn (v_pc : Int32) (w_n : Int32) : Int32 := (v_pc + w_n)
set_option maxHeartbeats 4000000 in
set_option maxRecDepth 100000 in
theorem cc_Core_goOn (l : Launch) (D : va_G) (tc : Nat → ClassId) (tb : Nat → Nat) (z0 : Nat) (sz : Nat) (a_c a_w a_m a_g a_p a_t a_r : Nat) (v_pc : Int32) (v_st : Int32) (v_cu : Int32) (v_va : Int32) (v_sp : Int32) (v_un : Int32) (w_n : Int32) (w_k : Int32) (w_d : Int32) (w_a : Int32) (w_b : Int32) (w_i : Int32) : Met l y_Core_goOn (wM y_Core_goOn b_Core_goOn 1 none) ({ frames := 0, cells := 0, slots := 0, locals := 0 }) (va_Pc [.ref a_c] (Pw D tc tb z0 [(a_c, .inr (7, [.ref a_m, .ref a_g, .ref a_p, .ref a_t, .ref a_w, .ref a_r, .int v_pc, .int v_st, .int v_cu, .int v_va, .int v_sp, .int v_un])), (a_w, .inr (4, [.int w_n, .int w_k, .int w_d, .int w_a, .int w_b, .int w_i]))] sz)) (va_Qv (fun u : Int32 => u = (cF_Core_goOn v_pc w_n)) (Bw D tc (va_A [(a_c, .inr (7, [.ref a_m, .ref a_g, .ref a_p, .ref a_t, .ref a_w, .ref a_r, .int v_pc, .int v_st, .int v_cu, .int v_va, .int v_sp, .int v_un])), (a_w, .inr (4, [.int w_n, .int w_k, .int w_d, .int w_a, .int w_b, .int w_i]))] sz) (fun u => [(a_c, .inr (7, [.ref a_m, .ref a_g, .ref a_p, .ref a_t, .ref a_w, .ref a_r, .int u, .int v_st, .int v_cu, .int v_va, .int v_sp, .int v_un])), (a_w, .inr (4, [.int w_n, .int w_k, .int w_d, .int w_a, .int w_b, .int w_i]))])) (va_A [(a_c, .inr (7, [.ref a_m, .ref a_g, .ref a_p, .ref a_t, .ref a_w, .ref a_r, .int v_pc, .int v_st, .int v_cu, .int v_va, .int v_sp, .int v_un])), (a_w, .inr (4, [.int w_n, .int w_k, .int w_d, .int w_a, .int w_b, .int w_i]))] sz)) 0 0 (va_A [(a_c, .inr (7, [.ref a_m, .ref a_g, .ref a_p, .ref a_t, .ref a_w, .ref a_r, .int v_pc, .int v_st, .int v_cu, .int v_va, .int v_sp, .int v_un])), (a_w, .inr (4, [.int w_n, .int w_k, .int w_d, .int w_a, .int w_b, .int w_i]))] sz) := by
  refine Met.ofW (cc := b_Core_goOn) (maxL := 1) (ret := none) (by decide) rfl ?_
  intro p e s m args below meth c s₁ B hml hv
  obtain ⟨rfl, hsz, hP, hK, hB, hD0, hZ0⟩ := hv
  have hx := B.exec
  have hb := B.bytes
  have hr := B.returns
  have hts : ∀ w ∈ wALL, w.before _ s = true := fun w h => atoms_spec (ws := (wM y_Core_goOn b_Core_goOn 1 none)) B.pre w (List.mem_cons_of_mem _ h)
  have hown : s.vm.findClass "StepMachine$Core" = some m.cls := findClass_of_methodNamed B.named
  have hlocks := B.notSynchronized
  subst hsz
  have hD := hD0.self (sz := s.heap.size)
  generalize hAe : va_A [(a_c, .inr (7, [.ref a_m, .ref a_g, .ref a_p, .ref a_t, .ref a_w, .ref a_r, .int v_pc, .int v_st, .int v_cu, .int v_va, .int v_sp, .int v_un])), (a_w, .inr (4, [.int w_n, .int w_k, .int w_d, .int w_a, .int w_b, .int w_i]))] s.heap.size = A at hD ⊢
  have hZ : ∀ q : Nat, A q → z0 ≤ q := by rw [← hAe]; exact hZ0
  have hA : ∀ q : Nat, s.heap.size ≤ q → A q := fun q h => by rw [← hAe]; exact Or.inr h
  have hS : va_S A s.heap s.heap [] := va_S.rf
  have hl := lv_entry ([.ref a_c]) (n := 1) (Nat.le_of_ble_eq_true rfl)
  rw [lg_entry_eq]
  generalize (lg_sl ([.ref a_c]) ++ List.replicate (1 - (lg_sl ([.ref a_c])).length) Slot.unset).toArray = ls at hl ⊢
  have hl : lv_has ls 1 [(0, .ref a_c)] := hl
  refine lv_aload_n hx hb d_Core_goOn_0 rfl (lv_at hl 0 rfl) ?_
  refine lv_dup hx hb d_Core_goOn_1 rfl ?_
  refine va_get (D := D) (ci := 7) (v := .int v_pc) (C := "StepMachine$Core") (T := TX7) (N := 12) hx hb hts inU_7 hown hK hP 0 rfl rfl 6 (by decide) (hts _ a_156) (fun _ h9 => h9) rfl d_Core_goOn_2 ?_
  refine lv_aload_n hx hb d_Core_goOn_5 rfl (lv_at hl 0 rfl) ?_
  refine va_get (D := D) (ci := 7) (v := .ref a_w) (C := "StepMachine$Core") (T := TX7) (N := 12) hx hb hts inU_7 hown hK hP 0 rfl rfl 4 (by decide) (hts _ a_154) (fun _ h9 => h9) rfl d_Core_goOn_6 ?_
  refine va_get (D := D) (ci := 4) (v := .int w_n) (C := "StepMachine$Word") (T := TX4) (N := 6) hx hb hts inU_4 hown hK hP 1 rfl rfl 0 (by decide) (hts _ a_133) (fun _ h9 => h9) rfl d_Core_goOn_9 ?_
  refine lv_iadd hx hb d_Core_goOn_12 ?_
  refine va_put (D := D) (ci := 7) (v := .int (v_pc + w_n)) (ty := .int) (C := "StepMachine$Core") (T := TX7) (N := 12) hx hb hts inU_7 tyX7 tyX7_ok nmX7 hown hK hP hD hS 0 rfl rfl 6 (by decide) (hts _ a_156) (fun _ h9 => h9) rfl (by decide +kernel) rfl rfl (Nat.le_of_ble_eq_true rfl) d_Core_goOn_13 (fun H locs hP hD hS => ?_)
  have hP : va_P D vwCl [(a_c, .inr (7, [.ref a_m, .ref a_g, .ref a_p, .ref a_t, .ref a_w, .ref a_r, .int (v_pc + w_n), .int v_st, .int v_cu, .int v_va, .int v_sp, .int v_un])), (a_w, .inr (4, [.int w_n, .int w_k, .int w_d, .int w_a, .int w_b, .int w_i]))] H := hP
  have hD : va_D A [(a_c, .inr (7, [.ref a_m, .ref a_g, .ref a_p, .ref a_t, .ref a_w, .ref a_r, .int (v_pc + w_n), .int v_st, .int v_cu, .int v_va, .int v_sp, .int v_un])), (a_w, .inr (4, [.int w_n, .int w_k, .int w_d, .int w_a, .int w_b, .int w_i]))] := hD
  exact W.vret hx hb hr (fun t ht hW => ⟨⟨(v_pc + w_n), rfl, by rw [cF_Core_goOn], by rw [ht]; exact hP, va_K.moved hW.alike hK, hD⟩, hS.F ht⟩) hS.2.2 d_Core_goOn_16
def cF_Core_jump_1 (x0 : Int32) (q_29 : Int32 × Int32) : Int32 × Int32 × Int32 := (x0, q_29.1, q_29.2)
def cF_Core_jump (v_st : Int32) (v_cu : Int32) (v_on : Int32) (v_mrk : Nat → Int32) (x0 : Int32) : Int32 × Int32 × Int32 := (if v_on = 0 then (x0, v_st, v_cu) else (if (cF_Guard_isMarked v_mrk x0) = 0 then (cF_Core_jump_1 x0 (cF_Core_become 5 x0)) else (x0, v_st, v_cu)))
set_option maxHeartbeats 4000000 in
set_option maxRecDepth 100000 in
theorem cc_Core_jump (l : Launch) (D : va_G) (tc : Nat → ClassId) (tb : Nat → Nat) (z0 : Nat) (sz : Nat) (a_c a_g a_gm a_m a_p a_t a_w a_r a_gb a_gs a_ga : Nat) (v_pc : Int32) (v_st : Int32) (v_cu : Int32) (v_va : Int32) (v_sp : Int32) (v_un : Int32) (v_on : Int32) (v_mrk : Nat → Int32) (x0 : Int32) : Met l y_Core_jump (wM y_Core_jump b_Core_jump 2 none) ({ frames := 2, cells := 0, slots := 0, locals := 41 }) (va_Pc [.ref a_c, .int x0] (Pw D tc tb z0 [(a_c, .inr (7, [.ref a_m, .ref a_g, .ref a_p, .ref a_t, .ref a_w, .ref a_r, .int v_pc, .int v_st, .int v_cu, .int v_va, .int v_sp, .int v_un])), (a_g, .inr (1, [.ref a_gb, .ref a_gs, .ref a_ga, .ref a_gm, .int v_on])), (a_gm, .inl (tc 0, 2048, .inl v_mrk))] sz)) (va_Qv (fun u : Int32 × Int32 × Int32 => u = (cF_Core_jump v_st v_cu v_on v_mrk x0)) (Bw D tc (va_A [(a_c, .inr (7, [.ref a_m, .ref a_g, .ref a_p, .ref a_t, .ref a_w, .ref a_r, .int v_pc, .int v_st, .int v_cu, .int v_va, .int v_sp, .int v_un])), (a_g, .inr (1, [.ref a_gb, .ref a_gs, .ref a_ga, .ref a_gm, .int v_on])), (a_gm, .inl (tc 0, 2048, .inl v_mrk))] sz) (fun u => [(a_c, .inr (7, [.ref a_m, .ref a_g, .ref a_p, .ref a_t, .ref a_w, .ref a_r, .int u.1, .int u.2.1, .int u.2.2, .int v_va, .int v_sp, .int v_un])), (a_g, .inr (1, [.ref a_gb, .ref a_gs, .ref a_ga, .ref a_gm, .int v_on])), (a_gm, .inl (tc 0, 2048, .inl v_mrk))])) (va_A [(a_c, .inr (7, [.ref a_m, .ref a_g, .ref a_p, .ref a_t, .ref a_w, .ref a_r, .int v_pc, .int v_st, .int v_cu, .int v_va, .int v_sp, .int v_un])), (a_g, .inr (1, [.ref a_gb, .ref a_gs, .ref a_ga, .ref a_gm, .int v_on])), (a_gm, .inl (tc 0, 2048, .inl v_mrk))] sz)) 0 0 (va_A [(a_c, .inr (7, [.ref a_m, .ref a_g, .ref a_p, .ref a_t, .ref a_w, .ref a_r, .int v_pc, .int v_st, .int v_cu, .int v_va, .int v_sp, .int v_un])), (a_g, .inr (1, [.ref a_gb, .ref a_gs, .ref a_ga, .ref a_gm, .int v_on])), (a_gm, .inl (tc 0, 2048, .inl v_mrk))] sz) := by
  refine Met.ofW (cc := b_Core_jump) (maxL := 2) (ret := none) (by decide) rfl ?_
  intro p e s m args below meth c s₁ B hml hv
  obtain ⟨rfl, hsz, hP, hK, hB, hD0, hZ0⟩ := hv
  have hx := B.exec
  have hb := B.bytes
  have hr := B.returns
  have hts : ∀ w ∈ wALL, w.before _ s = true := fun w h => atoms_spec (ws := (wM y_Core_jump b_Core_jump 2 none)) B.pre w (List.mem_cons_of_mem _ h)
  have hown : s.vm.findClass "StepMachine$Core" = some m.cls := findClass_of_methodNamed B.named
  have hlocks := B.notSynchronized
  subst hsz
  have hD := hD0.self (sz := s.heap.size)
  generalize hAe : va_A [(a_c, .inr (7, [.ref a_m, .ref a_g, .ref a_p, .ref a_t, .ref a_w, .ref a_r, .int v_pc, .int v_st, .int v_cu, .int v_va, .int v_sp, .int v_un])), (a_g, .inr (1, [.ref a_gb, .ref a_gs, .ref a_ga, .ref a_gm, .int v_on])), (a_gm, .inl (tc 0, 2048, .inl v_mrk))] s.heap.size = A at hD ⊢
  have hZ : ∀ q : Nat, A q → z0 ≤ q := by rw [← hAe]; exact hZ0
  have hA : ∀ q : Nat, s.heap.size ≤ q → A q := fun q h => by rw [← hAe]; exact Or.inr h
  have hS : va_S A s.heap s.heap [] := va_S.rf
  have hl := lv_entry ([.ref a_c, .int x0]) (n := 2) (Nat.le_of_ble_eq_true rfl)
  rw [lg_entry_eq]
  generalize (lg_sl ([.ref a_c, .int x0]) ++ List.replicate (2 - (lg_sl ([.ref a_c, .int x0])).length) Slot.unset).toArray = ls at hl ⊢
  have hl : lv_has ls 2 [(0, .ref a_c), (1, .int x0)] := hl
  refine lv_aload_n hx hb d_Core_jump_0 rfl (lv_at hl 0 rfl) ?_
  refine lv_iload_n hx hb d_Core_jump_1 rfl (lv_at hl 1 rfl) ?_
  refine va_put (D := D) (ci := 7) (v := .int x0) (ty := .int) (C := "StepMachine$Core") (T := TX7) (N := 12) hx hb hts inU_7 tyX7 tyX7_ok nmX7 hown hK hP hD hS 0 rfl rfl 6 (by decide) (hts _ a_156) (fun _ h9 => h9) rfl (by decide +kernel) rfl rfl (Nat.le_of_ble_eq_true rfl) d_Core_jump_2 (fun H locs hP hD hS => ?_)
  have hP : va_P D vwCl [(a_c, .inr (7, [.ref a_m, .ref a_g, .ref a_p, .ref a_t, .ref a_w, .ref a_r, .int x0, .int v_st, .int v_cu, .int v_va, .int v_sp, .int v_un])), (a_g, .inr (1, [.ref a_gb, .ref a_gs, .ref a_ga, .ref a_gm, .int v_on])), (a_gm, .inl (tc 0, 2048, .inl v_mrk))] H := hP
  have hD : va_D A [(a_c, .inr (7, [.ref a_m, .ref a_g, .ref a_p, .ref a_t, .ref a_w, .ref a_r, .int x0, .int v_st, .int v_cu, .int v_va, .int v_sp, .int v_un])), (a_g, .inr (1, [.ref a_gb, .ref a_gs, .ref a_ga, .ref a_gm, .int v_on])), (a_gm, .inl (tc 0, 2048, .inl v_mrk))] := hD
  refine lv_aload_n hx hb d_Core_jump_5 rfl (lv_at hl 0 rfl) ?_
  refine va_get (D := D) (ci := 7) (v := .ref a_g) (C := "StepMachine$Core") (T := TX7) (N := 12) hx hb hts inU_7 hown hK hP 0 rfl rfl 1 (by decide) (hts _ a_151) (fun _ h9 => h9) rfl d_Core_jump_6 ?_
  refine va_get (D := D) (ci := 1) (v := .int v_on) (C := "StepMachine$Guard") (T := TX1) (N := 5) hx hb hts inU_1 hown hK hP 1 rfl rfl 4 (by decide) (hts _ a_42) (fun _ h9 => h9) rfl d_Core_jump_9 ?_
  refine lv_if_eq (tgt := 32) hx hb d_Core_jump_12 (by decide) (fun c_12 => ?_) (fun c_12 => ?_)
  · skip
    exact W.vret hx hb hr (fun t ht hW => ⟨⟨(x0, v_st, v_cu), rfl, by rw [cF_Core_jump, if_pos c_12], by rw [ht]; exact hP, va_K.moved hW.alike hK, hD⟩, hS.F ht⟩) hS.2.2 d_Core_jump_32
  · skip
    refine lv_aload_n hx hb d_Core_jump_15 rfl (lv_at hl 0 rfl) ?_
    refine va_get (D := D) (ci := 7) (v := .ref a_g) (C := "StepMachine$Core") (T := TX7) (N := 12) hx hb hts inU_7 hown hK hP 0 rfl rfl 1 (by decide) (hts _ a_151) (fun _ h9 => h9) rfl d_Core_jump_16 ?_
    refine lv_iload_n hx hb d_Core_jump_19 rfl (lv_at hl 1 rfl) ?_
    refine roVi (As := [.int x0]) (rest := []) ⟨hx, hb, hml, hown, hts⟩ (cc_Guard_isMarked l D tc tb z0 a_g a_gm a_gb a_gs a_ga v_on v_mrk x0) (cwV 1 hts (goodV a_474 a_475 a_476 a_3 a_477) rfl rfl rfl hv_Guar_isMarked ⟨Nat.le_of_ble_eq_true rfl, Nat.le_of_ble_eq_true rfl⟩) (hP.sub [1, 2] rfl) hK (hB.kept hS hZ) rfl rfl rfl hl.1 rfl (Nat.le_of_ble_eq_true rfl) d_Core_jump_20 ⟨Nat.zero_le _, Nat.zero_le _⟩ ?_
    refine lv_if_ne (tgt := 32) hx hb d_Core_jump_23 (by decide) (fun c_23 => ?_) (fun c_23 => ?_)
    · skip
      exact W.vret hx hb hr (fun t ht hW => ⟨⟨(x0, v_st, v_cu), rfl, by rw [cF_Core_jump, if_neg c_12, if_neg c_23], by rw [ht]; exact hP, va_K.moved hW.alike hK, hD⟩, hS.F ht⟩) hS.2.2 d_Core_jump_32
    · skip
      refine lv_aload_n hx hb d_Core_jump_26 rfl (lv_at hl 0 rfl) ?_
      refine lv_iconst (v := 5) hx hb d_Core_jump_27 (by decide) ?_
      refine lv_iload_n hx hb d_Core_jump_28 rfl (lv_at hl 1 rfl) ?_
      obtain ⟨q_29, e_29⟩ : ∃ z, z = (cF_Core_become 5 x0) := ⟨_, rfl⟩
      refine wVv (As := [.int 5, .int x0]) (rest := []) e_29 ⟨hx, hb, hml, hown, hts⟩ (cc_Core_become l D tc tb z0 _ a_c a_m a_g a_p a_t a_w a_r x0 v_st v_cu v_va v_sp v_un 5 x0) (cwV 2 hts (goodV a_344 a_267 a_268 a_8 a_269) rfl rfl rfl hv_Core_become ⟨Nat.le_of_ble_eq_true rfl, Nat.le_of_ble_eq_true rfl⟩) hP hD hS hA hZ hK hB [0] rfl (by decide) (fun _ => rfl) rfl rfl rfl hl.1 rfl (Nat.le_of_ble_eq_true rfl) d_Core_jump_29 ⟨Nat.zero_le _, Nat.zero_le _⟩ (fun H locs hP hD hS => ?_)
      have hP : va_P D vwCl [(a_c, .inr (7, [.ref a_m, .ref a_g, .ref a_p, .ref a_t, .ref a_w, .ref a_r, .int x0, .int q_29.1, .int q_29.2, .int v_va, .int v_sp, .int v_un])), (a_g, .inr (1, [.ref a_gb, .ref a_gs, .ref a_ga, .ref a_gm, .int v_on])), (a_gm, .inl (tc 0, 2048, .inl v_mrk))] H := hP
      have hD : va_D A [(a_c, .inr (7, [.ref a_m, .ref a_g, .ref a_p, .ref a_t, .ref a_w, .ref a_r, .int x0, .int q_29.1, .int q_29.2, .int v_va, .int v_sp, .int v_un])), (a_g, .inr (1, [.ref a_gb, .ref a_gs, .ref a_ga, .ref a_gm, .int v_on])), (a_gm, .inl (tc 0, 2048, .inl v_mrk))] := hD
      exact W.vret hx hb hr (fun t ht hW => ⟨⟨(x0, q_29.1, q_29.2), rfl, by rw [cF_Core_jump, if_neg c_12, if_pos c_23, ← e_29, cF_Core_jump_1], by rw [ht]; exact hP, va_K.moved hW.alike hK, hD⟩, hS.F ht⟩) hS.2.2 d_Core_jump_32
def cF_Core_address (v_reg : Nat → Int32) (w_a : Int32) (w_i : Int32) : Int32 := ((cF_Core_register v_reg w_a) + w_i)
set_option maxHeartbeats 4000000 in
set_option maxRecDepth 100000 in
theorem cc_Core_address (l : Launch) (D : va_G) (tc : Nat → ClassId) (tb : Nat → Nat) (z0 : Nat) (a_c a_r a_w a_m a_g a_p a_t : Nat) (v_pc : Int32) (v_st : Int32) (v_cu : Int32) (v_va : Int32) (v_sp : Int32) (v_un : Int32) (v_reg : Nat → Int32) (w_n : Int32) (w_k : Int32) (w_d : Int32) (w_a : Int32) (w_b : Int32) (w_i : Int32) : Met l y_Core_address (wM y_Core_address b_Core_address 1 (some .int)) ({ frames := 1, cells := 0, slots := 0, locals := 21 }) (va_Pc [.ref a_c] (Pr D tc tb z0 [(a_c, .inr (7, [.ref a_m, .ref a_g, .ref a_p, .ref a_t, .ref a_w, .ref a_r, .int v_pc, .int v_st, .int v_cu, .int v_va, .int v_sp, .int v_un])), (a_r, .inl (tc 0, 32, .inl v_reg)), (a_w, .inr (4, [.int w_n, .int w_k, .int w_d, .int w_a, .int w_b, .int w_i]))])) (vp_Si (fun r => r = (cF_Core_address v_reg w_a w_i))) 0 0 (fun _ => False) := by
  refine Met.ofW (cc := b_Core_address) (maxL := 1) (ret := (some .int)) (by decide) rfl ?_
  intro p e s m args below meth c s₁ B hml hv
  obtain ⟨rfl, hP, hK, hB⟩ := hv
  have hx := B.exec
  have hb := B.bytes
  have hr := B.returns
  have hts : ∀ w ∈ wALL, w.before _ s = true := fun w h => atoms_spec (ws := (wM y_Core_address b_Core_address 1 (some .int))) B.pre w (List.mem_cons_of_mem _ h)
  have hown : s.vm.findClass "StepMachine$Core" = some m.cls := findClass_of_methodNamed B.named
  have hlocks := B.notSynchronized
  have hl := lv_entry ([.ref a_c]) (n := 1) (Nat.le_of_ble_eq_true rfl)
  rw [lg_entry_eq]
  generalize (lg_sl ([.ref a_c]) ++ List.replicate (1 - (lg_sl ([.ref a_c])).length) Slot.unset).toArray = ls at hl ⊢
  have hl : lv_has ls 1 [(0, .ref a_c)] := hl
  refine lv_aload_n hx hb d_Core_address_0 rfl (lv_at hl 0 rfl) ?_
  refine lv_aload_n hx hb d_Core_address_1 rfl (lv_at hl 0 rfl) ?_
  refine va_get (D := D) (ci := 7) (v := .ref a_w) (C := "StepMachine$Core") (T := TX7) (N := 12) hx hb hts inU_7 hown hK hP 0 rfl rfl 4 (by decide) (hts _ a_154) (fun _ h9 => h9) rfl d_Core_address_2 ?_
  refine va_get (D := D) (ci := 4) (v := .int w_a) (C := "StepMachine$Word") (T := TX4) (N := 6) hx hb hts inU_4 hown hK hP 2 rfl rfl 3 (by decide) (hts _ a_139) (fun _ h9 => h9) rfl d_Core_address_5 ?_
  refine roVi (As := [.int w_a]) (rest := []) ⟨hx, hb, hml, hown, hts⟩ (cc_Core_register l D tc tb z0 a_c a_r a_m a_g a_p a_t a_w v_pc v_st v_cu v_va v_sp v_un v_reg w_a) (cwV 1 hts (goodV a_465 a_283 a_284 a_8 a_285) rfl rfl rfl hv_Core_register ⟨Nat.le_of_ble_eq_true rfl, Nat.le_of_ble_eq_true rfl⟩) (hP.sub [0, 1] rfl) hK hB rfl rfl rfl hl.1 rfl (Nat.le_of_ble_eq_true rfl) d_Core_address_8 ⟨Nat.zero_le _, Nat.zero_le _⟩ ?_
  refine lv_aload_n hx hb d_Core_address_11 rfl (lv_at hl 0 rfl) ?_
  refine va_get (D := D) (ci := 7) (v := .ref a_w) (C := "StepMachine$Core") (T := TX7) (N := 12) hx hb hts inU_7 hown hK hP 0 rfl rfl 4 (by decide) (hts _ a_154) (fun _ h9 => h9) rfl d_Core_address_12 ?_
  refine va_get (D := D) (ci := 4) (v := .int w_i) (C := "StepMachine$Word") (T := TX4) (N := 6) hx hb hts inU_4 hown hK hP 2 rfl rfl 5 (by decide) (hts _ a_143) (fun _ h9 => h9) rfl d_Core_address_15 ?_
  refine lv_iadd hx hb d_Core_address_18 ?_
  exact W.iret (v := ((cF_Core_register v_reg w_a) + w_i)) hx hb hr (fun t ht hW => ⟨_, rfl, by rw [cF_Core_address], ht⟩) (fun q h => by cases h) d_Core_address_19
def cF_Core_link_2 (q_20 : Int32 × (Nat → Int32)) (q_26 : Int32 × Int32 × Int32) : (Nat → Int32) × Int32 × Int32 × Int32 := (q_20.2, q_26.1, q_26.2.1, q_26.2.2)
def cF_Core_link_1 (v_st : Int32) (v_cu : Int32) (v_on : Int32) (v_mrk : Nat → Int32) (x0 : Int32) (q_20 : Int32 × (Nat → Int32)) : (Nat → Int32) × Int32 × Int32 × Int32 := (cF_Core_link_2 q_20 (cF_Core_jump v_st v_cu v_on v_mrk x0))
def cF_Core_link (v_pc : Int32) (v_st : Int32) (v_cu : Int32) (v_reg : Nat → Int32) (w_n : Int32) (w_d : Int32) (v_on : Int32) (v_mrk : Nat → Int32) (x0 : Int32) : (Nat → Int32) × Int32 × Int32 × Int32 := (cF_Core_link_1 v_st v_cu v_on v_mrk x0 (cF_Core_putRegister v_reg w_d (v_pc + w_n)))
set_option maxHeartbeats 4000000 in
set_option maxRecDepth 100000 in
theorem cc_Core_link (l : Launch) (D : va_G) (tc : Nat → ClassId) (tb : Nat → Nat) (z0 : Nat) (sz : Nat) (a_c a_r a_w a_g a_gm a_m a_p a_t a_gb a_gs a_ga : Nat) (v_pc : Int32) (v_st : Int32) (v_cu : Int32) (v_va : Int32) (v_sp : Int32) (v_un : Int32) (v_reg : Nat → Int32) (w_n : Int32) (w_k : Int32) (w_d : Int32) (w_a : Int32) (w_b : Int32) (w_i : Int32) (v_on : Int32) (v_mrk : Nat → Int32) (x0 : Int32) : Met l y_Core_link (wM y_Core_link b_Core_link 2 none) ({ frames := 3, cells := 0, slots := 0, locals := 62 }) (va_Pc [.ref a_c, .int x0] (Pw D tc tb z0 [(a_c, .inr (7, [.ref a_m, .ref a_g, .ref a_p, .ref a_t, .ref a_w, .ref a_r, .int v_pc, .int v_st, .int v_cu, .int v_va, .int v_sp, .int v_un])), (a_r, .inl (tc 0, 32, .inl v_reg)), (a_w, .inr (4, [.int w_n, .int w_k, .int w_d, .int w_a, .int w_b, .int w_i])), (a_g, .inr (1, [.ref a_gb, .ref a_gs, .ref a_ga, .ref a_gm, .int v_on])), (a_gm, .inl (tc 0, 2048, .inl v_mrk))] sz)) (va_Qv (fun u : (Nat → Int32) × Int32 × Int32 × Int32 => u = (cF_Core_link v_pc v_st v_cu v_reg w_n w_d v_on v_mrk x0)) (Bw D tc (va_A [(a_c, .inr (7, [.ref a_m, .ref a_g, .ref a_p, .ref a_t, .ref a_w, .ref a_r, .int v_pc, .int v_st, .int v_cu, .int v_va, .int v_sp, .int v_un])), (a_r, .inl (tc 0, 32, .inl v_reg)), (a_w, .inr (4, [.int w_n, .int w_k, .int w_d, .int w_a, .int w_b, .int w_i])), (a_g, .inr (1, [.ref a_gb, .ref a_gs, .ref a_ga, .ref a_gm, .int v_on])), (a_gm, .inl (tc 0, 2048, .inl v_mrk))] sz) (fun u => [(a_c, .inr (7, [.ref a_m, .ref a_g, .ref a_p, .ref a_t, .ref a_w, .ref a_r, .int u.2.1, .int u.2.2.1, .int u.2.2.2, .int v_va, .int v_sp, .int v_un])), (a_r, .inl (tc 0, 32, .inl u.1)), (a_w, .inr (4, [.int w_n, .int w_k, .int w_d, .int w_a, .int w_b, .int w_i])), (a_g, .inr (1, [.ref a_gb, .ref a_gs, .ref a_ga, .ref a_gm, .int v_on])), (a_gm, .inl (tc 0, 2048, .inl v_mrk))])) (va_A [(a_c, .inr (7, [.ref a_m, .ref a_g, .ref a_p, .ref a_t, .ref a_w, .ref a_r, .int v_pc, .int v_st, .int v_cu, .int v_va, .int v_sp, .int v_un])), (a_r, .inl (tc 0, 32, .inl v_reg)), (a_w, .inr (4, [.int w_n, .int w_k, .int w_d, .int w_a, .int w_b, .int w_i])), (a_g, .inr (1, [.ref a_gb, .ref a_gs, .ref a_ga, .ref a_gm, .int v_on])), (a_gm, .inl (tc 0, 2048, .inl v_mrk))] sz)) 0 0 (va_A [(a_c, .inr (7, [.ref a_m, .ref a_g, .ref a_p, .ref a_t, .ref a_w, .ref a_r, .int v_pc, .int v_st, .int v_cu, .int v_va, .int v_sp, .int v_un])), (a_r, .inl (tc 0, 32, .inl v_reg)), (a_w, .inr (4, [.int w_n, .int w_k, .int w_d, .int w_a, .int w_b, .int w_i])), (a_g, .inr (1, [.ref a_gb, .ref a_gs, .ref a_ga, .ref a_gm, .int v_on])), (a_gm, .inl (tc 0, 2048, .inl v_mrk))] sz) := by
  refine Met.ofW (cc := b_Core_link) (maxL := 2) (ret := none) (by decide) rfl ?_
  intro p e s m args below meth c s₁ B hml hv
  obtain ⟨rfl, hsz, hP, hK, hB, hD0, hZ0⟩ := hv
  have hx := B.exec
  have hb := B.bytes
  have hr := B.returns
  have hts : ∀ w ∈ wALL, w.before _ s = true := fun w h => atoms_spec (ws := (wM y_Core_link b_Core_link 2 none)) B.pre w (List.mem_cons_of_mem _ h)
  have hown : s.vm.findClass "StepMachine$Core" = some m.cls := findClass_of_methodNamed B.named
  have hlocks := B.notSynchronized
  subst hsz
  have hD := hD0.self (sz := s.heap.size)
  generalize hAe : va_A [(a_c, .inr (7, [.ref a_m, .ref a_g, .ref a_p, .ref a_t, .ref a_w, .ref a_r, .int v_pc, .int v_st, .int v_cu, .int v_va, .int v_sp, .int v_un])), (a_r, .inl (tc 0, 32, .inl v_reg)), (a_w, .inr (4, [.int w_n, .int w_k, .int w_d, .int w_a, .int w_b, .int w_i])), (a_g, .inr (1, [.ref a_gb, .ref a_gs, .ref a_ga, .ref a_gm, .int v_on])), (a_gm, .inl (tc 0, 2048, .inl v_mrk))] s.heap.size = A at hD ⊢
  have hZ : ∀ q : Nat, A q → z0 ≤ q := by rw [← hAe]; exact hZ0
  have hA : ∀ q : Nat, s.heap.size ≤ q → A q := fun q h => by rw [← hAe]; exact Or.inr h
  have hS : va_S A s.heap s.heap [] := va_S.rf
  have hl := lv_entry ([.ref a_c, .int x0]) (n := 2) (Nat.le_of_ble_eq_true rfl)
  rw [lg_entry_eq]
  generalize (lg_sl ([.ref a_c, .int x0]) ++ List.replicate (2 - (lg_sl ([.ref a_c, .int x0])).length) Slot.unset).toArray = ls at hl ⊢
  have hl : lv_has ls 2 [(0, .ref a_c), (1, .int x0)] := hl
  refine lv_aload_n hx hb d_Core_link_0 rfl (lv_at hl 0 rfl) ?_
  refine lv_aload_n hx hb d_Core_link_1 rfl (lv_at hl 0 rfl) ?_
  refine va_get (D := D) (ci := 7) (v := .ref a_w) (C := "StepMachine$Core") (T := TX7) (N := 12) hx hb hts inU_7 hown hK hP 0 rfl rfl 4 (by decide) (hts _ a_154) (fun _ h9 => h9) rfl d_Core_link_2 ?_
  refine va_get (D := D) (ci := 4) (v := .int w_d) (C := "StepMachine$Word") (T := TX4) (N := 6) hx hb hts inU_4 hown hK hP 2 rfl rfl 2 (by decide) (hts _ a_137) (fun _ h9 => h9) rfl d_Core_link_5 ?_
  refine lv_aload_n hx hb d_Core_link_8 rfl (lv_at hl 0 rfl) ?_
  refine va_get (D := D) (ci := 7) (v := .int v_pc) (C := "StepMachine$Core") (T := TX7) (N := 12) hx hb hts inU_7 hown hK hP 0 rfl rfl 6 (by decide) (hts _ a_156) (fun _ h9 => h9) rfl d_Core_link_9 ?_
  refine lv_aload_n hx hb d_Core_link_12 rfl (lv_at hl 0 rfl) ?_
  refine va_get (D := D) (ci := 7) (v := .ref a_w) (C := "StepMachine$Core") (T := TX7) (N := 12) hx hb hts inU_7 hown hK hP 0 rfl rfl 4 (by decide) (hts _ a_154) (fun _ h9 => h9) rfl d_Core_link_13 ?_
  refine va_get (D := D) (ci := 4) (v := .int w_n) (C := "StepMachine$Word") (T := TX4) (N := 6) hx hb hts inU_4 hown hK hP 2 rfl rfl 0 (by decide) (hts _ a_133) (fun _ h9 => h9) rfl d_Core_link_16 ?_
  refine lv_iadd hx hb d_Core_link_19 ?_
  obtain ⟨q_20, e_20⟩ : ∃ z, z = (cF_Core_putRegister v_reg w_d (v_pc + w_n)) := ⟨_, rfl⟩
  refine wVi (As := [.int w_d, .int (v_pc + w_n)]) (rest := []) e_20 ⟨hx, hb, hml, hown, hts⟩ (cc_Core_putRegister l D tc tb z0 _ a_c a_r a_m a_g a_p a_t a_w v_pc v_st v_cu v_va v_sp v_un v_reg w_d (v_pc + w_n)) (cwV 2 hts (goodV a_498 a_275 a_276 a_8 a_277) rfl rfl rfl hv_Core_putRegister ⟨Nat.le_of_ble_eq_true rfl, Nat.le_of_ble_eq_true rfl⟩) hP hD hS hA hZ hK hB [0, 1] rfl (by decide) (fun _ => rfl) rfl rfl rfl hl.1 rfl (Nat.le_of_ble_eq_true rfl) d_Core_link_20 ⟨Nat.zero_le _, Nat.zero_le _⟩ (fun H locs hP hD hS => ?_)
  have hP : va_P D vwCl [(a_c, .inr (7, [.ref a_m, .ref a_g, .ref a_p, .ref a_t, .ref a_w, .ref a_r, .int v_pc, .int v_st, .int v_cu, .int v_va, .int v_sp, .int v_un])), (a_r, .inl (tc 0, 32, .inl q_20.2)), (a_w, .inr (4, [.int w_n, .int w_k, .int w_d, .int w_a, .int w_b, .int w_i])), (a_g, .inr (1, [.ref a_gb, .ref a_gs, .ref a_ga, .ref a_gm, .int v_on])), (a_gm, .inl (tc 0, 2048, .inl v_mrk))] H := hP
  have hD : va_D A [(a_c, .inr (7, [.ref a_m, .ref a_g, .ref a_p, .ref a_t, .ref a_w, .ref a_r, .int v_pc, .int v_st, .int v_cu, .int v_va, .int v_sp, .int v_un])), (a_r, .inl (tc 0, 32, .inl q_20.2)), (a_w, .inr (4, [.int w_n, .int w_k, .int w_d, .int w_a, .int w_b, .int w_i])), (a_g, .inr (1, [.ref a_gb, .ref a_gs, .ref a_ga, .ref a_gm, .int v_on])), (a_gm, .inl (tc 0, 2048, .inl v_mrk))] := hD
  refine lv_pop hx hb d_Core_link_23 rfl ?_
  refine lv_aload_n hx hb d_Core_link_24 rfl (lv_at hl 0 rfl) ?_
  refine lv_iload_n hx hb d_Core_link_25 rfl (lv_at hl 1 rfl) ?_
  obtain ⟨q_26, e_26⟩ : ∃ z, z = (cF_Core_jump v_st v_cu v_on v_mrk x0) := ⟨_, rfl⟩
  refine wVv (As := [.int x0]) (rest := []) e_26 ⟨hx, hb, hml, hown, hts⟩ (cc_Core_jump l D tc tb z0 _ a_c a_g a_gm a_m a_p a_t a_w a_r a_gb a_gs a_ga v_pc v_st v_cu v_va v_sp v_un v_on v_mrk x0) (cwV 1 hts (goodV a_499 a_500 a_903 a_8 a_501) rfl rfl rfl hv_Core_jump ⟨Nat.le_of_ble_eq_true rfl, Nat.le_of_ble_eq_true rfl⟩) hP hD hS hA hZ hK hB [0, 3, 4] rfl (by decide) (fun _ => rfl) rfl rfl rfl hl.1 rfl (Nat.le_of_ble_eq_true rfl) d_Core_link_26 ⟨Nat.zero_le _, Nat.zero_le _⟩ (fun H locs hP hD hS => ?_)
  have hP : va_P D vwCl [(a_c, .inr (7, [.ref a_m, .ref a_g, .ref a_p, .ref a_t, .ref a_w, .ref a_r, .int q_26.1, .int q_26.2.1, .int q_26.2.2, .int v_va, .int v_sp, .int v_un])), (a_r, .inl (tc 0, 32, .inl q_20.2)), (a_w, .inr (4, [.int w_n, .int w_k, .int w_d, .int w_a, .int w_b, .int w_i])), (a_g, .inr (1, [.ref a_gb, .ref a_gs, .ref a_ga, .ref a_gm, .int v_on])), (a_gm, .inl (tc 0, 2048, .inl v_mrk))] H := hP
  have hD : va_D A [(a_c, .inr (7, [.ref a_m, .ref a_g, .ref a_p, .ref a_t, .ref a_w, .ref a_r, .int q_26.1, .int q_26.2.1, .int q_26.2.2, .int v_va, .int v_sp, .int v_un])), (a_r, .inl (tc 0, 32, .inl q_20.2)), (a_w, .inr (4, [.int w_n, .int w_k, .int w_d, .int w_a, .int w_b, .int w_i])), (a_g, .inr (1, [.ref a_gb, .ref a_gs, .ref a_ga, .ref a_gm, .int v_on])), (a_gm, .inl (tc 0, 2048, .inl v_mrk))] := hD
  exact W.vret hx hb hr (fun t ht hW => ⟨⟨(q_20.2, q_26.1, q_26.2.1, q_26.2.2), rfl, by rw [cF_Core_link, ← e_20, cF_Core_link_1, ← e_26, cF_Core_link_2], by rw [ht]; exact hP, va_K.moved hW.alike hK, hD⟩, hS.F ht⟩) hS.2.2 d_Core_link_29
def cF_Core_branch_1 (v_st : Int32) (v_cu : Int32) (q_55 : Int32) : Int32 × Int32 × Int32 := (q_55, v_st, v_cu)
def cF_Core_branch_2  (q_48 : Int32 × Int32 × Int32) : Int32 × Int32 × Int32 := (q_48.1, q_48.2.1, q_48.2.2)
def cF_Core_branch (v_pc : Int32) (v_st : Int32) (v_cu : Int32) (v_reg : Nat → Int32) (w_n : Int32) (w_k : Int32) (w_a : Int32) (w_b : Int32) (w_i : Int32) (v_on : Int32) (v_mrk : Nat → Int32) : Int32 × Int32 × Int32 := (if (cF_Arithmetic_holds w_k (cF_Core_register v_reg w_a) (cF_Core_register v_reg w_b)) = 0 then (cF_Core_branch_1 v_st v_cu (cF_Core_goOn v_pc w_n)) else (cF_Core_branch_2 (cF_Core_jump v_st v_cu v_on v_mrk (v_pc + w_i))))
set_option maxHeartbeats 4000000 in
set_option maxRecDepth 100000 in
theorem cc_Core_branch (l : Launch) (D : va_G) (tc : Nat → ClassId) (tb : Nat → Nat) (z0 : Nat) (sz : Nat) (a_c a_r a_w a_g a_gm a_m a_p a_t a_gb a_gs a_ga : Nat) (v_pc : Int32) (v_st : Int32) (v_cu : Int32) (v_va : Int32) (v_sp : Int32) (v_un : Int32) (v_reg : Nat → Int32) (w_n : Int32) (w_k : Int32) (w_d : Int32) (w_a : Int32) (w_b : Int32) (w_i : Int32) (v_on : Int32) (v_mrk : Nat → Int32) : Met l y_Core_branch (wM y_Core_branch b_Core_branch 1 none) ({ frames := 3, cells := 0, slots := 0, locals := 62 }) (va_Pc [.ref a_c] (Pw D tc tb z0 [(a_c, .inr (7, [.ref a_m, .ref a_g, .ref a_p, .ref a_t, .ref a_w, .ref a_r, .int v_pc, .int v_st, .int v_cu, .int v_va, .int v_sp, .int v_un])), (a_r, .inl (tc 0, 32, .inl v_reg)), (a_w, .inr (4, [.int w_n, .int w_k, .int w_d, .int w_a, .int w_b, .int w_i])), (a_g, .inr (1, [.ref a_gb, .ref a_gs, .ref a_ga, .ref a_gm, .int v_on])), (a_gm, .inl (tc 0, 2048, .inl v_mrk))] sz)) (va_Qv (fun u : Int32 × Int32 × Int32 => u = (cF_Core_branch v_pc v_st v_cu v_reg w_n w_k w_a w_b w_i v_on v_mrk)) (Bw D tc (va_A [(a_c, .inr (7, [.ref a_m, .ref a_g, .ref a_p, .ref a_t, .ref a_w, .ref a_r, .int v_pc, .int v_st, .int v_cu, .int v_va, .int v_sp, .int v_un])), (a_r, .inl (tc 0, 32, .inl v_reg)), (a_w, .inr (4, [.int w_n, .int w_k, .int w_d, .int w_a, .int w_b, .int w_i])), (a_g, .inr (1, [.ref a_gb, .ref a_gs, .ref a_ga, .ref a_gm, .int v_on])), (a_gm, .inl (tc 0, 2048, .inl v_mrk))] sz) (fun u => [(a_c, .inr (7, [.ref a_m, .ref a_g, .ref a_p, .ref a_t, .ref a_w, .ref a_r, .int u.1, .int u.2.1, .int u.2.2, .int v_va, .int v_sp, .int v_un])), (a_r, .inl (tc 0, 32, .inl v_reg)), (a_w, .inr (4, [.int w_n, .int w_k, .int w_d, .int w_a, .int w_b, .int w_i])), (a_g, .inr (1, [.ref a_gb, .ref a_gs, .ref a_ga, .ref a_gm, .int v_on])), (a_gm, .inl (tc 0, 2048, .inl v_mrk))])) (va_A [(a_c, .inr (7, [.ref a_m, .ref a_g, .ref a_p, .ref a_t, .ref a_w, .ref a_r, .int v_pc, .int v_st, .int v_cu, .int v_va, .int v_sp, .int v_un])), (a_r, .inl (tc 0, 32, .inl v_reg)), (a_w, .inr (4, [.int w_n, .int w_k, .int w_d, .int w_a, .int w_b, .int w_i])), (a_g, .inr (1, [.ref a_gb, .ref a_gs, .ref a_ga, .ref a_gm, .int v_on])), (a_gm, .inl (tc 0, 2048, .inl v_mrk))] sz)) 0 0 (va_A [(a_c, .inr (7, [.ref a_m, .ref a_g, .ref a_p, .ref a_t, .ref a_w, .ref a_r, .int v_pc, .int v_st, .int v_cu, .int v_va, .int v_sp, .int v_un])), (a_r, .inl (tc 0, 32, .inl v_reg)), (a_w, .inr (4, [.int w_n, .int w_k, .int w_d, .int w_a, .int w_b, .int w_i])), (a_g, .inr (1, [.ref a_gb, .ref a_gs, .ref a_ga, .ref a_gm, .int v_on])), (a_gm, .inl (tc 0, 2048, .inl v_mrk))] sz) := by
  refine Met.ofW (cc := b_Core_branch) (maxL := 1) (ret := none) (by decide) rfl ?_
  intro p e s m args below meth c s₁ B hml hv
  obtain ⟨rfl, hsz, hP, hK, hB, hD0, hZ0⟩ := hv
  have hx := B.exec
  have hb := B.bytes
  have hr := B.returns
  have hts : ∀ w ∈ wALL, w.before _ s = true := fun w h => atoms_spec (ws := (wM y_Core_branch b_Core_branch 1 none)) B.pre w (List.mem_cons_of_mem _ h)
  have hown : s.vm.findClass "StepMachine$Core" = some m.cls := findClass_of_methodNamed B.named
  have hlocks := B.notSynchronized
  subst hsz
  have hD := hD0.self (sz := s.heap.size)
  generalize hAe : va_A [(a_c, .inr (7, [.ref a_m, .ref a_g, .ref a_p, .ref a_t, .ref a_w, .ref a_r, .int v_pc, .int v_st, .int v_cu, .int v_va, .int v_sp, .int v_un])), (a_r, .inl (tc 0, 32, .inl v_reg)), (a_w, .inr (4, [.int w_n, .int w_k, .int w_d, .int w_a, .int w_b, .int w_i])), (a_g, .inr (1, [.ref a_gb, .ref a_gs, .ref a_ga, .ref a_gm, .int v_on])), (a_gm, .inl (tc 0, 2048, .inl v_mrk))] s.heap.size = A at hD ⊢
  have hZ : ∀ q : Nat, A q → z0 ≤ q := by rw [← hAe]; exact hZ0
  have hA : ∀ q : Nat, s.heap.size ≤ q → A q := fun q h => by rw [← hAe]; exact Or.inr h
  have hS : va_S A s.heap s.heap [] := va_S.rf
  have hl := lv_entry ([.ref a_c]) (n := 1) (Nat.le_of_ble_eq_true rfl)
  rw [lg_entry_eq]
  generalize (lg_sl ([.ref a_c]) ++ List.replicate (1 - (lg_sl ([.ref a_c])).length) Slot.unset).toArray = ls at hl ⊢
  have hl : lv_has ls 1 [(0, .ref a_c)] := hl
  refine lv_aload_n hx hb d_Core_branch_0 rfl (lv_at hl 0 rfl) ?_
  refine va_get (D := D) (ci := 7) (v := .ref a_w) (C := "StepMachine$Core") (T := TX7) (N := 12) hx hb hts inU_7 hown hK hP 0 rfl rfl 4 (by decide) (hts _ a_154) (fun _ h9 => h9) rfl d_Core_branch_1 ?_
  refine va_get (D := D) (ci := 4) (v := .int w_k) (C := "StepMachine$Word") (T := TX4) (N := 6) hx hb hts inU_4 hown hK hP 2 rfl rfl 1 (by decide) (hts _ a_135) (fun _ h9 => h9) rfl d_Core_branch_4 ?_
  refine lv_aload_n hx hb d_Core_branch_7 rfl (lv_at hl 0 rfl) ?_
  refine lv_aload_n hx hb d_Core_branch_8 rfl (lv_at hl 0 rfl) ?_
  refine va_get (D := D) (ci := 7) (v := .ref a_w) (C := "StepMachine$Core") (T := TX7) (N := 12) hx hb hts inU_7 hown hK hP 0 rfl rfl 4 (by decide) (hts _ a_154) (fun _ h9 => h9) rfl d_Core_branch_9 ?_
  refine va_get (D := D) (ci := 4) (v := .int w_a) (C := "StepMachine$Word") (T := TX4) (N := 6) hx hb hts inU_4 hown hK hP 2 rfl rfl 3 (by decide) (hts _ a_139) (fun _ h9 => h9) rfl d_Core_branch_12 ?_
  refine roVi (As := [.int w_a]) (rest := [.int w_k]) ⟨hx, hb, hml, hown, hts⟩ (cc_Core_register l D tc tb z0 a_c a_r a_m a_g a_p a_t a_w v_pc v_st v_cu v_va v_sp v_un v_reg w_a) (cwV 1 hts (goodV a_465 a_283 a_284 a_8 a_285) rfl rfl rfl hv_Core_register ⟨Nat.le_of_ble_eq_true rfl, Nat.le_of_ble_eq_true rfl⟩) (hP.sub [0, 1] rfl) hK (hB.kept hS hZ) rfl rfl rfl hl.1 rfl (Nat.le_of_ble_eq_true rfl) d_Core_branch_15 ⟨Nat.zero_le _, Nat.zero_le _⟩ ?_
  refine lv_aload_n hx hb d_Core_branch_18 rfl (lv_at hl 0 rfl) ?_
  refine lv_aload_n hx hb d_Core_branch_19 rfl (lv_at hl 0 rfl) ?_
  refine va_get (D := D) (ci := 7) (v := .ref a_w) (C := "StepMachine$Core") (T := TX7) (N := 12) hx hb hts inU_7 hown hK hP 0 rfl rfl 4 (by decide) (hts _ a_154) (fun _ h9 => h9) rfl d_Core_branch_20 ?_
  refine va_get (D := D) (ci := 4) (v := .int w_b) (C := "StepMachine$Word") (T := TX4) (N := 6) hx hb hts inU_4 hown hK hP 2 rfl rfl 4 (by decide) (hts _ a_141) (fun _ h9 => h9) rfl d_Core_branch_23 ?_
  refine roVi (As := [.int w_b]) (rest := [.int (cF_Core_register v_reg w_a), .int w_k]) ⟨hx, hb, hml, hown, hts⟩ (cc_Core_register l D tc tb z0 a_c a_r a_m a_g a_p a_t a_w v_pc v_st v_cu v_va v_sp v_un v_reg w_b) (cwV 1 hts (goodV a_465 a_283 a_284 a_8 a_285) rfl rfl rfl hv_Core_register ⟨Nat.le_of_ble_eq_true rfl, Nat.le_of_ble_eq_true rfl⟩) (hP.sub [0, 1] rfl) hK (hB.kept hS hZ) rfl rfl rfl hl.1 rfl (Nat.le_of_ble_eq_true rfl) d_Core_branch_26 ⟨Nat.zero_le _, Nat.zero_le _⟩ ?_
  refine roSi (As := [.int w_k, .int (cF_Core_register v_reg w_a), .int (cF_Core_register v_reg w_b)]) (rest := []) ⟨hx, hb, hml, hown, hts⟩ (cc_Arithmetic_holds l D tc tb z0 w_k (cF_Core_register v_reg w_a) (cF_Core_register v_reg w_b)) (va_cwS 3 hts (goodS a_505 a_506 a_14 a_507) rfl rfl rfl hs_Arit_holds ⟨Nat.le_of_ble_eq_true rfl, Nat.le_of_ble_eq_true rfl⟩) (hP.sub [] rfl) hK (hB.kept hS hZ) rfl hl.1 rfl (Nat.le_of_ble_eq_true rfl) d_Core_branch_29 ⟨Nat.zero_le _, Nat.zero_le _⟩ ?_
  refine lv_if_eq (tgt := 54) hx hb d_Core_branch_32 (by decide) (fun c_32 => ?_) (fun c_32 => ?_)
  · skip
    refine lv_aload_n hx hb d_Core_branch_54 rfl (lv_at hl 0 rfl) ?_
    obtain ⟨q_55, e_55⟩ : ∃ z, z = (cF_Core_goOn v_pc w_n) := ⟨_, rfl⟩
    refine wVv (As := []) (rest := []) e_55 ⟨hx, hb, hml, hown, hts⟩ (cc_Core_goOn l D tc tb z0 _ a_c a_w a_m a_g a_p a_t a_r v_pc v_st v_cu v_va v_sp v_un w_n w_k w_d w_a w_b w_i) (cwV 0 hts (goodV a_512 a_513 a_905 a_8 a_514) rfl rfl rfl hv_Core_goOn ⟨Nat.le_of_ble_eq_true rfl, Nat.le_of_ble_eq_true rfl⟩) hP hD hS hA hZ hK hB [0, 2] rfl (by decide) (fun _ => rfl) rfl rfl rfl hl.1 rfl (Nat.le_of_ble_eq_true rfl) d_Core_branch_55 ⟨Nat.zero_le _, Nat.zero_le _⟩ (fun H locs hP hD hS => ?_)
    have hP : va_P D vwCl [(a_c, .inr (7, [.ref a_m, .ref a_g, .ref a_p, .ref a_t, .ref a_w, .ref a_r, .int q_55, .int v_st, .int v_cu, .int v_va, .int v_sp, .int v_un])), (a_r, .inl (tc 0, 32, .inl v_reg)), (a_w, .inr (4, [.int w_n, .int w_k, .int w_d, .int w_a, .int w_b, .int w_i])), (a_g, .inr (1, [.ref a_gb, .ref a_gs, .ref a_ga, .ref a_gm, .int v_on])), (a_gm, .inl (tc 0, 2048, .inl v_mrk))] H := hP
    have hD : va_D A [(a_c, .inr (7, [.ref a_m, .ref a_g, .ref a_p, .ref a_t, .ref a_w, .ref a_r, .int q_55, .int v_st, .int v_cu, .int v_va, .int v_sp, .int v_un])), (a_r, .inl (tc 0, 32, .inl v_reg)), (a_w, .inr (4, [.int w_n, .int w_k, .int w_d, .int w_a, .int w_b, .int w_i])), (a_g, .inr (1, [.ref a_gb, .ref a_gs, .ref a_ga, .ref a_gm, .int v_on])), (a_gm, .inl (tc 0, 2048, .inl v_mrk))] := hD
    exact W.vret hx hb hr (fun t ht hW => ⟨⟨(q_55, v_st, v_cu), rfl, by rw [cF_Core_branch, if_pos c_32, ← e_55, cF_Core_branch_1], by rw [ht]; exact hP, va_K.moved hW.alike hK, hD⟩, hS.F ht⟩) hS.2.2 d_Core_branch_58
  · skip
    refine lv_aload_n hx hb d_Core_branch_35 rfl (lv_at hl 0 rfl) ?_
    refine lv_aload_n hx hb d_Core_branch_36 rfl (lv_at hl 0 rfl) ?_
    refine va_get (D := D) (ci := 7) (v := .int v_pc) (C := "StepMachine$Core") (T := TX7) (N := 12) hx hb hts inU_7 hown hK hP 0 rfl rfl 6 (by decide) (hts _ a_156) (fun _ h9 => h9) rfl d_Core_branch_37 ?_
    refine lv_aload_n hx hb d_Core_branch_40 rfl (lv_at hl 0 rfl) ?_
    refine va_get (D := D) (ci := 7) (v := .ref a_w) (C := "StepMachine$Core") (T := TX7) (N := 12) hx hb hts inU_7 hown hK hP 0 rfl rfl 4 (by decide) (hts _ a_154) (fun _ h9 => h9) rfl d_Core_branch_41 ?_
    refine va_get (D := D) (ci := 4) (v := .int w_i) (C := "StepMachine$Word") (T := TX4) (N := 6) hx hb hts inU_4 hown hK hP 2 rfl rfl 5 (by decide) (hts _ a_143) (fun _ h9 => h9) rfl d_Core_branch_44 ?_
    refine lv_iadd hx hb d_Core_branch_47 ?_
    obtain ⟨q_48, e_48⟩ : ∃ z, z = (cF_Core_jump v_st v_cu v_on v_mrk (v_pc + w_i)) := ⟨_, rfl⟩
    refine wVv (As := [.int (v_pc + w_i)]) (rest := []) e_48 ⟨hx, hb, hml, hown, hts⟩ (cc_Core_jump l D tc tb z0 _ a_c a_g a_gm a_m a_p a_t a_w a_r a_gb a_gs a_ga v_pc v_st v_cu v_va v_sp v_un v_on v_mrk (v_pc + w_i)) (cwV 1 hts (goodV a_499 a_500 a_903 a_8 a_501) rfl rfl rfl hv_Core_jump ⟨Nat.le_of_ble_eq_true rfl, Nat.le_of_ble_eq_true rfl⟩) hP hD hS hA hZ hK hB [0, 3, 4] rfl (by decide) (fun _ => rfl) rfl rfl rfl hl.1 rfl (Nat.le_of_ble_eq_true rfl) d_Core_branch_48 ⟨Nat.zero_le _, Nat.zero_le _⟩ (fun H locs hP hD hS => ?_)
    have hP : va_P D vwCl [(a_c, .inr (7, [.ref a_m, .ref a_g, .ref a_p, .ref a_t, .ref a_w, .ref a_r, .int q_48.1, .int q_48.2.1, .int q_48.2.2, .int v_va, .int v_sp, .int v_un])), (a_r, .inl (tc 0, 32, .inl v_reg)), (a_w, .inr (4, [.int w_n, .int w_k, .int w_d, .int w_a, .int w_b, .int w_i])), (a_g, .inr (1, [.ref a_gb, .ref a_gs, .ref a_ga, .ref a_gm, .int v_on])), (a_gm, .inl (tc 0, 2048, .inl v_mrk))] H := hP
    have hD : va_D A [(a_c, .inr (7, [.ref a_m, .ref a_g, .ref a_p, .ref a_t, .ref a_w, .ref a_r, .int q_48.1, .int q_48.2.1, .int q_48.2.2, .int v_va, .int v_sp, .int v_un])), (a_r, .inl (tc 0, 32, .inl v_reg)), (a_w, .inr (4, [.int w_n, .int w_k, .int w_d, .int w_a, .int w_b, .int w_i])), (a_g, .inr (1, [.ref a_gb, .ref a_gs, .ref a_ga, .ref a_gm, .int v_on])), (a_gm, .inl (tc 0, 2048, .inl v_mrk))] := hD
    refine lv_goto (tgt := 58) hx hb d_Core_branch_51 (by decide) ?_
    exact W.vret hx hb hr (fun t ht hW => ⟨⟨(q_48.1, q_48.2.1, q_48.2.2), rfl, by rw [cF_Core_branch, if_neg c_32, ← e_48, cF_Core_branch_2], by rw [ht]; exact hP, va_K.moved hW.alike hK, hD⟩, hS.F ht⟩) hS.2.2 d_Core_branch_58
def cF_Core_loaded (v_reg : Nat → Int32) (w_k : Int32) (w_a : Int32) (w_i : Int32) (v_mem : Nat → Int32) : Int32 := (if w_k = 10 then (cF_Word_signed (cF_Memory_number v_mem (cF_Core_address v_reg w_a w_i) (cF_Word_accessBytes w_k)) 8) else (if w_k = 11 then (cF_Word_signed (cF_Memory_number v_mem (cF_Core_address v_reg w_a w_i) (cF_Word_accessBytes w_k)) 16) else (cF_Memory_number v_mem (cF_Core_address v_reg w_a w_i) (cF_Word_accessBytes w_k))))
set_option maxHeartbeats 4000000 in
set_option maxRecDepth 100000 in
theorem cc_Core_loaded (l : Launch) (D : va_G) (tc : Nat → ClassId) (tb : Nat → Nat) (z0 : Nat) (a_c a_r a_w a_m a_mc a_g a_p a_t : Nat) (v_pc : Int32) (v_st : Int32) (v_cu : Int32) (v_va : Int32) (v_sp : Int32) (v_un : Int32) (v_reg : Nat → Int32) (w_n : Int32) (w_k : Int32) (w_d : Int32) (w_a : Int32) (w_b : Int32) (w_i : Int32) (v_mem : Nat → Int32) : Met l y_Core_loaded (wM y_Core_loaded b_Core_loaded 2 (some .int)) ({ frames := 3, cells := 0, slots := 0, locals := 63 }) (va_Pc [.ref a_c] (Pr D tc tb z0 [(a_c, .inr (7, [.ref a_m, .ref a_g, .ref a_p, .ref a_t, .ref a_w, .ref a_r, .int v_pc, .int v_st, .int v_cu, .int v_va, .int v_sp, .int v_un])), (a_r, .inl (tc 0, 32, .inl v_reg)), (a_w, .inr (4, [.int w_n, .int w_k, .int w_d, .int w_a, .int w_b, .int w_i])), (a_m, .inr (0, [.ref a_mc])), (a_mc, .inl (tc 0, 32768, .inl v_mem))])) (vp_Si (fun r => r = (cF_Core_loaded v_reg w_k w_a w_i v_mem))) 0 0 (fun _ => False) := by
  refine Met.ofW (cc := b_Core_loaded) (maxL := 2) (ret := (some .int)) (by decide) rfl ?_
  intro p e s m args below meth c s₁ B hml hv
  obtain ⟨rfl, hP, hK, hB⟩ := hv
  have hx := B.exec
  have hb := B.bytes
  have hr := B.returns
  have hts : ∀ w ∈ wALL, w.before _ s = true := fun w h => atoms_spec (ws := (wM y_Core_loaded b_Core_loaded 2 (some .int))) B.pre w (List.mem_cons_of_mem _ h)
  have hown : s.vm.findClass "StepMachine$Core" = some m.cls := findClass_of_methodNamed B.named
  have hlocks := B.notSynchronized
  have hl := lv_entry ([.ref a_c]) (n := 2) (Nat.le_of_ble_eq_true rfl)
  rw [lg_entry_eq]
  generalize (lg_sl ([.ref a_c]) ++ List.replicate (2 - (lg_sl ([.ref a_c])).length) Slot.unset).toArray = ls at hl ⊢
  have hl : lv_has ls 2 [(0, .ref a_c)] := hl
  refine lv_aload_n hx hb d_Core_loaded_0 rfl (lv_at hl 0 rfl) ?_
  refine va_get (D := D) (ci := 7) (v := .ref a_m) (C := "StepMachine$Core") (T := TX7) (N := 12) hx hb hts inU_7 hown hK hP 0 rfl rfl 0 (by decide) (hts _ a_150) (fun _ h9 => h9) rfl d_Core_loaded_1 ?_
  refine lv_aload_n hx hb d_Core_loaded_4 rfl (lv_at hl 0 rfl) ?_
  refine roVi (As := []) (rest := [.ref a_m]) ⟨hx, hb, hml, hown, hts⟩ (cc_Core_address l D tc tb z0 a_c a_r a_w a_m a_g a_p a_t v_pc v_st v_cu v_va v_sp v_un v_reg w_n w_k w_d w_a w_b w_i) (cwV 0 hts (goodV a_462 a_463 a_899 a_8 a_464) rfl rfl rfl hv_Core_address ⟨Nat.le_of_ble_eq_true rfl, Nat.le_of_ble_eq_true rfl⟩) (hP.sub [0, 1, 2] rfl) hK hB rfl rfl rfl hl.1 rfl (Nat.le_of_ble_eq_true rfl) d_Core_loaded_5 ⟨Nat.zero_le _, Nat.zero_le _⟩ ?_
  refine lv_aload_n hx hb d_Core_loaded_8 rfl (lv_at hl 0 rfl) ?_
  refine va_get (D := D) (ci := 7) (v := .ref a_w) (C := "StepMachine$Core") (T := TX7) (N := 12) hx hb hts inU_7 hown hK hP 0 rfl rfl 4 (by decide) (hts _ a_154) (fun _ h9 => h9) rfl d_Core_loaded_9 ?_
  refine roVi (As := []) (rest := [.int (cF_Core_address v_reg w_a w_i), .ref a_m]) ⟨hx, hb, hml, hown, hts⟩ (cc_Word_accessBytes l D tc tb z0 a_w w_n w_k w_d w_a w_b w_i) (cwV 0 hts (goodV a_458 a_459 a_460 a_9 a_461) rfl rfl rfl hv_Word_accessBytes ⟨Nat.le_of_ble_eq_true rfl, Nat.le_of_ble_eq_true rfl⟩) (hP.sub [2] rfl) hK hB rfl rfl rfl hl.1 rfl (Nat.le_of_ble_eq_true rfl) d_Core_loaded_12 ⟨Nat.zero_le _, Nat.zero_le _⟩ ?_
  refine roVi (As := [.int (cF_Core_address v_reg w_a w_i), .int (cF_Word_accessBytes w_k)]) (rest := []) ⟨hx, hb, hml, hown, hts⟩ (cc_Memory_number l D tc tb z0 a_m a_mc v_mem (cF_Core_address v_reg w_a w_i) (cF_Word_accessBytes w_k)) (cwV 2 hts (goodV a_345 a_259 a_260 a_2 a_261) rfl rfl rfl hv_Memo_number ⟨Nat.le_of_ble_eq_true rfl, Nat.le_of_ble_eq_true rfl⟩) (hP.sub [3, 4] rfl) hK hB rfl rfl rfl hl.1 rfl (Nat.le_of_ble_eq_true rfl) d_Core_loaded_15 ⟨Nat.zero_le _, Nat.zero_le _⟩ ?_
  refine lv_istore_n (lv' := [(1, .int (cF_Memory_number v_mem (cF_Core_address v_reg w_a w_i) (cF_Word_accessBytes w_k))), (0, .ref a_c)]) hx hb d_Core_loaded_18 rfl hl (by decide) rfl (fun ls hl => ?_)
  refine lv_aload_n hx hb d_Core_loaded_19 rfl (lv_at hl 1 rfl) ?_
  refine va_get (D := D) (ci := 7) (v := .ref a_w) (C := "StepMachine$Core") (T := TX7) (N := 12) hx hb hts inU_7 hown hK hP 0 rfl rfl 4 (by decide) (hts _ a_154) (fun _ h9 => h9) rfl d_Core_loaded_20 ?_
  refine va_get (D := D) (ci := 4) (v := .int w_k) (C := "StepMachine$Word") (T := TX4) (N := 6) hx hb hts inU_4 hown hK hP 2 rfl rfl 1 (by decide) (hts _ a_135) (fun _ h9 => h9) rfl d_Core_loaded_23 ?_
  by_cases c_26_0 : w_k = 10
  · skip
    refine lv_lookup (off := 26) (tgt := 52) hx hb d_Core_loaded_26 (by decide) (by rw [c_26_0] <;> rfl) (by decide) ?_
    refine lv_iload_n hx hb d_Core_loaded_52 rfl (lv_at hl 0 rfl) ?_
    refine lv_bipush (v := 8) hx hb d_Core_loaded_53 (by decide) ?_
    refine roSi (As := [.int (cF_Memory_number v_mem (cF_Core_address v_reg w_a w_i) (cF_Word_accessBytes w_k)), .int 8]) (rest := []) ⟨hx, hb, hml, hown, hts⟩ (cc_Word_signed l D tc tb z0 (cF_Memory_number v_mem (cF_Core_address v_reg w_a w_i) (cF_Word_accessBytes w_k)) 8) (va_cwS 2 hts (goodS a_536 a_377 a_9 a_378) rfl rfl rfl hs_Word_signed ⟨Nat.le_of_ble_eq_true rfl, Nat.le_of_ble_eq_true rfl⟩) (hP.sub [] rfl) hK hB rfl hl.1 rfl (Nat.le_of_ble_eq_true rfl) d_Core_loaded_55 ⟨Nat.zero_le _, Nat.zero_le _⟩ ?_
    exact W.iret (v := (cF_Word_signed (cF_Memory_number v_mem (cF_Core_address v_reg w_a w_i) (cF_Word_accessBytes w_k)) 8)) hx hb hr (fun t ht hW => ⟨_, rfl, by rw [cF_Core_loaded, if_pos c_26_0], ht⟩) (fun q h => by cases h) d_Core_loaded_58
  · skip
    by_cases c_26_1 : w_k = 11
    · skip
      refine lv_lookup (off := 33) (tgt := 59) hx hb d_Core_loaded_26 (by decide) (by rw [c_26_1] <;> rfl) (by decide) ?_
      refine lv_iload_n hx hb d_Core_loaded_59 rfl (lv_at hl 0 rfl) ?_
      refine lv_bipush (v := 16) hx hb d_Core_loaded_60 (by decide) ?_
      refine roSi (As := [.int (cF_Memory_number v_mem (cF_Core_address v_reg w_a w_i) (cF_Word_accessBytes w_k)), .int 16]) (rest := []) ⟨hx, hb, hml, hown, hts⟩ (cc_Word_signed l D tc tb z0 (cF_Memory_number v_mem (cF_Core_address v_reg w_a w_i) (cF_Word_accessBytes w_k)) 16) (va_cwS 2 hts (goodS a_536 a_377 a_9 a_378) rfl rfl rfl hs_Word_signed ⟨Nat.le_of_ble_eq_true rfl, Nat.le_of_ble_eq_true rfl⟩) (hP.sub [] rfl) hK hB rfl hl.1 rfl (Nat.le_of_ble_eq_true rfl) d_Core_loaded_62 ⟨Nat.zero_le _, Nat.zero_le _⟩ ?_
      exact W.iret (v := (cF_Word_signed (cF_Memory_number v_mem (cF_Core_address v_reg w_a w_i) (cF_Word_accessBytes w_k)) 16)) hx hb hr (fun t ht hW => ⟨_, rfl, by rw [cF_Core_loaded, if_neg c_26_0, if_pos c_26_1], ht⟩) (fun q h => by cases h) d_Core_loaded_65
    · skip
      refine lv_lookup (off := 40) (tgt := 66) hx hb d_Core_loaded_26 (by decide) ((lv_osw (k := 10) c_26_0 (by decide)).trans <| (lv_osw (k := 11) c_26_1 (by decide)).trans <| rfl) (by decide) ?_
      refine lv_iload_n hx hb d_Core_loaded_66 rfl (lv_at hl 0 rfl) ?_
      exact W.iret (v := (cF_Memory_number v_mem (cF_Core_address v_reg w_a w_i) (cF_Word_accessBytes w_k))) hx hb hr (fun t ht hW => ⟨_, rfl, by rw [cF_Core_loaded, if_neg c_26_0, if_neg c_26_1], ht⟩) (fun q h => by cases h) d_Core_loaded_67
