def cF_Trail_forget  : Int32 := 0
set_option maxHeartbeats 4000000 in
set_option maxRecDepth 100000 in
theorem cc_Trail_forget (l : Launch) (D : va_G) (tc : Nat → ClassId) (tb : Nat → Nat) (z0 : Nat) (sz : Nat) (a_t a_tr : Nat) (v_nx : Int32) (v_ct : Int32) : Met l y_Trai_forget (wM y_Trai_forget b_Trai_forget 1 none) ({ frames := 0, cells := 0, slots := 0, locals := 0 }) (va_Pc [.ref a_t] (Pw D tc tb z0 [(a_t, .inr (6, [.ref a_tr, .int v_nx, .int v_ct]))] sz)) (va_Qv (fun u : Int32 => u = cF_Trail_forget) (Bw D tc (va_A [(a_t, .inr (6, [.ref a_tr, .int v_nx, .int v_ct]))] sz) (fun u => [(a_t, .inr (6, [.ref a_tr, .int v_nx, .int u]))])) (va_A [(a_t, .inr (6, [.ref a_tr, .int v_nx, .int v_ct]))] sz)) 0 0 (va_A [(a_t, .inr (6, [.ref a_tr, .int v_nx, .int v_ct]))] sz) := by
  refine Met.ofW (cc := b_Trai_forget) (maxL := 1) (ret := none) (by decide) rfl ?_
  intro p e s m args below meth c s₁ B hml hv
  obtain ⟨rfl, hsz, hP, hK, hB, hD0, hZ0⟩ := hv
  have hx := B.exec
  have hb := B.bytes
  have hr := B.returns
  have hts : ∀ w ∈ wALL, w.before _ s = true := fun w h => atoms_spec (ws := (wM y_Trai_forget b_Trai_forget 1 none)) B.pre w (List.mem_cons_of_mem _ h)
  have hown : s.vm.findClass "StepMachine$Trail" = some m.cls := findClass_of_methodNamed B.named
  have hlocks := B.notSynchronized
  subst hsz
  have hD := hD0.self (sz := s.heap.size)
  generalize hAe : va_A [(a_t, .inr (6, [.ref a_tr, .int v_nx, .int v_ct]))] s.heap.size = A at hD ⊢
  have hZ : ∀ q : Nat, A q → z0 ≤ q := by rw [← hAe]; exact hZ0
  have hA : ∀ q : Nat, s.heap.size ≤ q → A q := fun q h => by rw [← hAe]; exact Or.inr h
  have hS : va_S A s.heap s.heap [] := va_S.rf
  have hl := lv_entry ([.ref a_t]) (n := 1) (Nat.le_of_ble_eq_true rfl)
  rw [lg_entry_eq]
  generalize (lg_sl ([.ref a_t]) ++ List.replicate (1 - (lg_sl ([.ref a_t])).length) Slot.unset).toArray = ls at hl ⊢
  have hl : lv_has ls 1 [(0, .ref a_t)] := hl
  refine lv_aload_n hx hb d_Trai_forget_0 rfl (lv_at hl 0 rfl) ?_
  refine lv_iconst (v := 0) hx hb d_Trai_forget_1 (by decide) ?_
  refine va_put (D := D) (ci := 6) (v := .int 0) (ty := .int) (C := "StepMachine$Trail") (T := TX6) (N := 3) hx hb hts inU_6 tyX6 tyX6_ok nmX6 hown hK hP hD hS 0 rfl rfl 2 (by decide) (hts _ a_116) (fun _ h9 => h9) rfl (by decide +kernel) rfl rfl (Nat.le_of_ble_eq_true rfl) d_Trai_forget_2 (fun H locs hP hD hS => ?_)
  have hP : va_P D vwCl [(a_t, .inr (6, [.ref a_tr, .int v_nx, .int 0]))] H := hP
  have hD : va_D A [(a_t, .inr (6, [.ref a_tr, .int v_nx, .int 0]))] := hD
  exact W.vret hx hb hr (fun t ht hW => ⟨⟨0, rfl, by rw [cF_Trail_forget], by rw [ht]; exact hP, va_K.moved hW.alike hK, hD⟩, hS.F ht⟩) hS.2.2 d_Trai_forget_5
def cF_StepMachine_byteOf (x0 : Int64) (x1 : Int32) : Int32 := ((j_lushr x0 (56 - (8 * x1))).toInt32 &&& 255)
set_option maxHeartbeats 4000000 in
set_option maxRecDepth 100000 in
theorem cc_StepMachine_byteOf (l : Launch) (D : va_G) (tc : Nat → ClassId) (tb : Nat → Nat) (z0 : Nat) (x0 : Int64) (x1 : Int32) : Met l y_X_byteOf (wM y_X_byteOf b_X_byteOf 3 (some .int)) ({ frames := 0, cells := 0, slots := 0, locals := 0 }) (va_Pc [.long x0, .int x1] (Pr D tc tb z0 [])) (vp_Si (fun r => r = (cF_StepMachine_byteOf x0 x1))) 0 0 (fun _ => False) := by
  refine Met.ofW (cc := b_X_byteOf) (maxL := 3) (ret := (some .int)) (by decide) rfl ?_
  intro p e s m args below meth c s₁ B hml hv
  obtain ⟨rfl, hP, hK, hB⟩ := hv
  have hx := B.exec
  have hb := B.bytes
  have hr := B.returns
  have hts : ∀ w ∈ wALL, w.before _ s = true := fun w h => atoms_spec (ws := (wM y_X_byteOf b_X_byteOf 3 (some .int))) B.pre w (List.mem_cons_of_mem _ h)
  have hown : s.vm.findClass "StepMachine" = some m.cls := findClass_of_methodNamed B.named
  have hlocks := B.notSynchronized
  have hl := lv_entry ([.long x0, .int x1]) (n := 3) (Nat.le_of_ble_eq_true rfl)
  rw [lg_entry_eq]
  generalize (lg_sl ([.long x0, .int x1]) ++ List.replicate (3 - (lg_sl ([.long x0, .int x1])).length) Slot.unset).toArray = ls at hl ⊢
  have hl : lv_has ls 3 [(0, .long x0), (2, .int x1)] := hl
  refine lv_lload_n hx hb d_X_byteOf_0 rfl (lv_at hl 0 rfl) ?_
  refine lv_bipush (v := 56) hx hb d_X_byteOf_1 (by decide) ?_
  refine lv_bipush (v := 8) hx hb d_X_byteOf_3 (by decide) ?_
  refine lv_iload_n hx hb d_X_byteOf_5 rfl (lv_at hl 1 rfl) ?_
  refine lv_imul hx hb d_X_byteOf_6 ?_
  refine lv_isub hx hb d_X_byteOf_7 ?_
  refine lv_lushr (v := (j_lushr x0 (56 - (8 * x1)))) hx hb d_X_byteOf_8 rfl ?_
  refine lv_l2i (v := (j_lushr x0 (56 - (8 * x1))).toInt32) hx hb d_X_byteOf_9 rfl ?_
  refine lv_sipush (v := 255) hx hb d_X_byteOf_10 (by decide) ?_
  refine lv_iand hx hb d_X_byteOf_13 ?_
  exact W.iret (v := ((j_lushr x0 (56 - (8 * x1))).toInt32 &&& 255)) hx hb hr (fun t ht hW => ⟨_, rfl, by rw [cF_StepMachine_byteOf], ht⟩) (fun q h => by cases h) d_X_byteOf_14
def cF_StepMachine_forgetIf_1 (x0 : Int32) (q_8 : Int32) : Int32 × Int32 := (x0, q_8)
def cF_StepMachine_forgetIf (v_ct : Int32) (x0 : Int32) : Int32 × Int32 := (if x0 = 0 then (x0, v_ct) else (cF_StepMachine_forgetIf_1 x0 cF_Trail_forget))
set_option maxHeartbeats 4000000 in
set_option maxRecDepth 100000 in
theorem cc_StepMachine_forgetIf (l : Launch) (D : va_G) (tc : Nat → ClassId) (tb : Nat → Nat) (z0 : Nat) (sz : Nat) (a_x a_t a_m a_g a_h a_p a_c a_tr : Nat) (v_nx : Int32) (v_ct : Int32) (x0 : Int32) (hz : x0 = 0 ∨ x0 = 1) : Met l y_X_forgetIf (wM y_X_forgetIf b_X_forgetIf 2 (some .boolean)) ({ frames := 1, cells := 0, slots := 0, locals := 20 }) (va_Pc [.ref a_x, .int x0] (Pw D tc tb z0 [(a_x, .inr (8, [.ref a_m, .ref a_g, .ref a_h, .ref a_p, .ref a_t, .ref a_c])), (a_t, .inr (6, [.ref a_tr, .int v_nx, .int v_ct]))] sz)) (va_Qi (fun (r : Int32) (u : Int32) => (r, u) = (cF_StepMachine_forgetIf v_ct x0)) (Bw D tc (va_A [(a_x, .inr (8, [.ref a_m, .ref a_g, .ref a_h, .ref a_p, .ref a_t, .ref a_c])), (a_t, .inr (6, [.ref a_tr, .int v_nx, .int v_ct]))] sz) (fun u => [(a_x, .inr (8, [.ref a_m, .ref a_g, .ref a_h, .ref a_p, .ref a_t, .ref a_c])), (a_t, .inr (6, [.ref a_tr, .int v_nx, .int u]))])) (va_A [(a_x, .inr (8, [.ref a_m, .ref a_g, .ref a_h, .ref a_p, .ref a_t, .ref a_c])), (a_t, .inr (6, [.ref a_tr, .int v_nx, .int v_ct]))] sz)) 0 0 (va_A [(a_x, .inr (8, [.ref a_m, .ref a_g, .ref a_h, .ref a_p, .ref a_t, .ref a_c])), (a_t, .inr (6, [.ref a_tr, .int v_nx, .int v_ct]))] sz) := by
  refine Met.ofW (cc := b_X_forgetIf) (maxL := 2) (ret := (some .boolean)) (by decide) rfl ?_
  intro p e s m args below meth c s₁ B hml hv
  obtain ⟨rfl, hsz, hP, hK, hB, hD0, hZ0⟩ := hv
  have hx := B.exec
  have hb := B.bytes
  have hr := B.returns
  have hts : ∀ w ∈ wALL, w.before _ s = true := fun w h => atoms_spec (ws := (wM y_X_forgetIf b_X_forgetIf 2 (some .boolean))) B.pre w (List.mem_cons_of_mem _ h)
  have hown : s.vm.findClass "StepMachine" = some m.cls := findClass_of_methodNamed B.named
  have hlocks := B.notSynchronized
  subst hsz
  have hD := hD0.self (sz := s.heap.size)
  generalize hAe : va_A [(a_x, .inr (8, [.ref a_m, .ref a_g, .ref a_h, .ref a_p, .ref a_t, .ref a_c])), (a_t, .inr (6, [.ref a_tr, .int v_nx, .int v_ct]))] s.heap.size = A at hD ⊢
  have hZ : ∀ q : Nat, A q → z0 ≤ q := by rw [← hAe]; exact hZ0
  have hA : ∀ q : Nat, s.heap.size ≤ q → A q := fun q h => by rw [← hAe]; exact Or.inr h
  have hS : va_S A s.heap s.heap [] := va_S.rf
  have hl := lv_entry ([.ref a_x, .int x0]) (n := 2) (Nat.le_of_ble_eq_true rfl)
  rw [lg_entry_eq]
  generalize (lg_sl ([.ref a_x, .int x0]) ++ List.replicate (2 - (lg_sl ([.ref a_x, .int x0])).length) Slot.unset).toArray = ls at hl ⊢
  have hl : lv_has ls 2 [(0, .ref a_x), (1, .int x0)] := hl
  refine lv_iload_n hx hb d_X_forgetIf_0 rfl (lv_at hl 1 rfl) ?_
  refine lv_if_eq (tgt := 11) hx hb d_X_forgetIf_1 (by decide) (fun c_1 => ?_) (fun c_1 => ?_)
  · skip
    refine lv_iload_n hx hb d_X_forgetIf_11 rfl (lv_at hl 1 rfl) ?_
    exact W.zret (v := x0) hx hb hr (zb_of hz) (fun t ht hW => ⟨⟨_, v_ct, rfl, by rw [cF_StepMachine_forgetIf, if_pos c_1], by rw [ht]; exact hP, va_K.moved hW.alike hK, hD⟩, hS.F ht⟩) hS.2.2 d_X_forgetIf_12
  · skip
    refine lv_aload_n hx hb d_X_forgetIf_4 rfl (lv_at hl 0 rfl) ?_
    refine va_get (D := D) (ci := 8) (v := .ref a_t) (C := "StepMachine") (T := TX8) (N := 6) hx hb hts inU_8 hown hK hP 0 rfl rfl 4 (by decide) (hts _ a_184) (fun _ h9 => h9) rfl d_X_forgetIf_5 ?_
    obtain ⟨q_8, e_8⟩ : ∃ z, z = cF_Trail_forget := ⟨_, rfl⟩
    refine wVv (As := []) (rest := []) e_8 ⟨hx, hb, hml, hown, hts⟩ (cc_Trail_forget l D tc tb z0 _ a_t a_tr v_nx v_ct) (cwV 0 hts (goodV a_204 a_205 a_206 a_6 a_207) rfl rfl rfl hv_Trai_forget ⟨Nat.le_of_ble_eq_true rfl, Nat.le_of_ble_eq_true rfl⟩) hP hD hS hA hZ hK hB [1] rfl (by decide) (fun _ => rfl) rfl rfl rfl hl.1 rfl (Nat.le_of_ble_eq_true rfl) d_X_forgetIf_8 ⟨Nat.zero_le _, Nat.zero_le _⟩ (fun H locs hP hD hS => ?_)
    have hP : va_P D vwCl [(a_x, .inr (8, [.ref a_m, .ref a_g, .ref a_h, .ref a_p, .ref a_t, .ref a_c])), (a_t, .inr (6, [.ref a_tr, .int v_nx, .int q_8]))] H := hP
    have hD : va_D A [(a_x, .inr (8, [.ref a_m, .ref a_g, .ref a_h, .ref a_p, .ref a_t, .ref a_c])), (a_t, .inr (6, [.ref a_tr, .int v_nx, .int q_8]))] := hD
    refine lv_iload_n hx hb d_X_forgetIf_11 rfl (lv_at hl 1 rfl) ?_
    exact W.zret (v := x0) hx hb hr (zb_of hz) (fun t ht hW => ⟨⟨_, q_8, rfl, by rw [cF_StepMachine_forgetIf, if_neg c_1, ← e_8, cF_StepMachine_forgetIf_1], by rw [ht]; exact hP, va_K.moved hW.alike hK, hD⟩, hS.F ht⟩) hS.2.2 d_X_forgetIf_12
theorem zb_forgetIf {v_ct x0 : Int32} (hz : x0 = 0 ∨ x0 = 1) : (cF_StepMachine_forgetIf v_ct x0).1 = 0 ∨ (cF_StepMachine_forgetIf v_ct x0).1 = 1 := by
  rcases hz with rfl | rfl
  · exact Or.inl rfl
  · exact Or.inr rfl
theorem zb_putSegment (v_beg v_siz v_alw : Nat → Int32) (x0 x1 x2 x3 : Int32) : (cF_Guard_putSegment v_beg v_siz v_alw x0 x1 x2 x3).1 = 0 ∨ (cF_Guard_putSegment v_beg v_siz v_alw x0 x1 x2 x3).1 = 1 := by
  rw [cF_Guard_putSegment]
  repeat' split
  all_goals first | exact Or.inl rfl | exact Or.inr rfl
theorem zb_putMark (v_mrk : Nat → Int32) (x0 x1 : Int32) : (cF_Guard_putMark v_mrk x0 x1).1 = 0 ∨ (cF_Guard_putMark v_mrk x0 x1).1 = 1 := by
  rw [cF_Guard_putMark]
  repeat' split
  all_goals first | exact Or.inl rfl | exact Or.inr rfl
theorem zb_putPc (v_pc x0 : Int32) : (cF_Core_putPc v_pc x0).1 = 0 ∨ (cF_Core_putPc v_pc x0).1 = 1 := by
  rw [cF_Core_putPc]
  repeat' split
  all_goals first | exact Or.inl rfl | exact Or.inr rfl
theorem zb_putRegister (v_reg : Nat → Int32) (x0 x1 : Int32) : (cF_Core_putRegister v_reg x0 x1).1 = 0 ∨ (cF_Core_putRegister v_reg x0 x1).1 = 1 := by
  rw [cF_Core_putRegister]
  repeat' split
  all_goals first | exact Or.inl rfl | exact Or.inr rfl
theorem zb_add (v_hc : Int32) (v_hp : Nat → Int32) (x0 : Int32) : (cF_Halts_add v_hc v_hp x0).1 = 0 ∨ (cF_Halts_add v_hc v_hp x0).1 = 1 := by
  rw [cF_Halts_add]
  repeat' split
  all_goals first | exact Or.inl rfl | exact Or.inr rfl
theorem zb_remove (v_hc : Int32) (v_hp : Nat → Int32) (x0 : Int32) : (cF_Halts_remove v_hc v_hp x0).1 = 0 ∨ (cF_Halts_remove v_hc v_hp x0).1 = 1 := by
  rw [cF_Halts_remove]
  repeat' split
  all_goals first | exact Or.inl rfl | exact Or.inr rfl
theorem zf_of {v : Int32} (h : v = 0 ∨ v = 1) : fits .boolean (.int v) = true := by
  rcases h with rfl | rfl <;> rfl
theorem give_rng {v_in : Nat → Int32} {v_giv x0 : Int32} (hp0 : 0 ≤ v_giv.toInt ∧ v_giv.toInt ≤ 1000) : 0 ≤ (cF_Ports_give v_giv v_in x0).2.toInt ∧ (cF_Ports_give v_giv v_in x0).2.toInt ≤ 1000 := by
  rw [cF_Ports_give]
  split
  · exact hp0
  · rename_i h
    have a := ob_give hp0 h
    rw [vp_in_iff] at a
    have h0 : v_giv.toNatClampNeg = v_giv.toInt.toNat := rfl
    have e : v_giv = nI v_giv.toNatClampNeg := by
      apply Int32.toInt_inj.mp
      rw [nI_toInt (by omega)]
      omega
    show 0 ≤ (v_giv + 1).toInt ∧ (v_giv + 1).toInt ≤ 1000
    rw [e, nI_1, nI_toInt (by omega)]
    omega
def cF_StepMachine_segment_2 (q_10 : Int32 × (Nat → Int32) × (Nat → Int32) × (Nat → Int32)) (q_13 : Int32 × Int32) : Int32 × (Nat → Int32) × (Nat → Int32) × (Nat → Int32) × Int32 := (q_13.1, q_10.2.1, q_10.2.2.1, q_10.2.2.2, q_13.2)
def cF_StepMachine_segment_1 (v_ct : Int32) (q_10 : Int32 × (Nat → Int32) × (Nat → Int32) × (Nat → Int32)) : Int32 × (Nat → Int32) × (Nat → Int32) × (Nat → Int32) × Int32 := (cF_StepMachine_segment_2 q_10 (cF_StepMachine_forgetIf v_ct q_10.1))
def cF_StepMachine_segment (v_beg : Nat → Int32) (v_siz : Nat → Int32) (v_alw : Nat → Int32) (v_ct : Int32) (x0 : Int32) (x1 : Int32) (x2 : Int32) (x3 : Int32) : Int32 × (Nat → Int32) × (Nat → Int32) × (Nat → Int32) × Int32 := (cF_StepMachine_segment_1 v_ct (cF_Guard_putSegment v_beg v_siz v_alw x0 x1 x2 x3))
set_option maxHeartbeats 4000000 in
set_option maxRecDepth 100000 in
theorem cc_StepMachine_segment (l : Launch) (D : va_G) (tc : Nat → ClassId) (tb : Nat → Nat) (z0 : Nat) (sz : Nat) (a_x a_g a_gb a_gs a_ga a_t a_m a_h a_p a_c a_gm a_tr : Nat) (v_on : Int32) (v_beg : Nat → Int32) (v_siz : Nat → Int32) (v_alw : Nat → Int32) (v_nx : Int32) (v_ct : Int32) (x0 : Int32) (x1 : Int32) (x2 : Int32) (x3 : Int32) : Met l y_X_segment (wM y_X_segment b_X_segment 5 (some .boolean)) ({ frames := 2, cells := 0, slots := 0, locals := 41 }) (va_Pc [.ref a_x, .int x0, .int x1, .int x2, .int x3] (Pw D tc tb z0 [(a_x, .inr (8, [.ref a_m, .ref a_g, .ref a_h, .ref a_p, .ref a_t, .ref a_c])), (a_g, .inr (1, [.ref a_gb, .ref a_gs, .ref a_ga, .ref a_gm, .int v_on])), (a_gb, .inl (tc 0, 8, .inl v_beg)), (a_gs, .inl (tc 0, 8, .inl v_siz)), (a_ga, .inl (tc 0, 8, .inl v_alw)), (a_t, .inr (6, [.ref a_tr, .int v_nx, .int v_ct]))] sz)) (va_Qi (fun (r : Int32) (u : (Nat → Int32) × (Nat → Int32) × (Nat → Int32) × Int32) => (r, u) = (cF_StepMachine_segment v_beg v_siz v_alw v_ct x0 x1 x2 x3)) (Bw D tc (va_A [(a_x, .inr (8, [.ref a_m, .ref a_g, .ref a_h, .ref a_p, .ref a_t, .ref a_c])), (a_g, .inr (1, [.ref a_gb, .ref a_gs, .ref a_ga, .ref a_gm, .int v_on])), (a_gb, .inl (tc 0, 8, .inl v_beg)), (a_gs, .inl (tc 0, 8, .inl v_siz)), (a_ga, .inl (tc 0, 8, .inl v_alw)), (a_t, .inr (6, [.ref a_tr, .int v_nx, .int v_ct]))] sz) (fun u => [(a_x, .inr (8, [.ref a_m, .ref a_g, .ref a_h, .ref a_p, .ref a_t, .ref a_c])), (a_g, .inr (1, [.ref a_gb, .ref a_gs, .ref a_ga, .ref a_gm, .int v_on])), (a_gb, .inl (tc 0, 8, .inl u.1)), (a_gs, .inl (tc 0, 8, .inl u.2.1)), (a_ga, .inl (tc 0, 8, .inl u.2.2.1)), (a_t, .inr (6, [.ref a_tr, .int v_nx, .int u.2.2.2]))])) (va_A [(a_x, .inr (8, [.ref a_m, .ref a_g, .ref a_h, .ref a_p, .ref a_t, .ref a_c])), (a_g, .inr (1, [.ref a_gb, .ref a_gs, .ref a_ga, .ref a_gm, .int v_on])), (a_gb, .inl (tc 0, 8, .inl v_beg)), (a_gs, .inl (tc 0, 8, .inl v_siz)), (a_ga, .inl (tc 0, 8, .inl v_alw)), (a_t, .inr (6, [.ref a_tr, .int v_nx, .int v_ct]))] sz)) 0 0 (va_A [(a_x, .inr (8, [.ref a_m, .ref a_g, .ref a_h, .ref a_p, .ref a_t, .ref a_c])), (a_g, .inr (1, [.ref a_gb, .ref a_gs, .ref a_ga, .ref a_gm, .int v_on])), (a_gb, .inl (tc 0, 8, .inl v_beg)), (a_gs, .inl (tc 0, 8, .inl v_siz)), (a_ga, .inl (tc 0, 8, .inl v_alw)), (a_t, .inr (6, [.ref a_tr, .int v_nx, .int v_ct]))] sz) := by
  refine Met.ofW (cc := b_X_segment) (maxL := 5) (ret := (some .boolean)) (by decide) rfl ?_
  intro p e s m args below meth c s₁ B hml hv
  obtain ⟨rfl, hsz, hP, hK, hB, hD0, hZ0⟩ := hv
  have hx := B.exec
  have hb := B.bytes
  have hr := B.returns
  have hts : ∀ w ∈ wALL, w.before _ s = true := fun w h => atoms_spec (ws := (wM y_X_segment b_X_segment 5 (some .boolean))) B.pre w (List.mem_cons_of_mem _ h)
  have hown : s.vm.findClass "StepMachine" = some m.cls := findClass_of_methodNamed B.named
  have hlocks := B.notSynchronized
  subst hsz
  have hD := hD0.self (sz := s.heap.size)
  generalize hAe : va_A [(a_x, .inr (8, [.ref a_m, .ref a_g, .ref a_h, .ref a_p, .ref a_t, .ref a_c])), (a_g, .inr (1, [.ref a_gb, .ref a_gs, .ref a_ga, .ref a_gm, .int v_on])), (a_gb, .inl (tc 0, 8, .inl v_beg)), (a_gs, .inl (tc 0, 8, .inl v_siz)), (a_ga, .inl (tc 0, 8, .inl v_alw)), (a_t, .inr (6, [.ref a_tr, .int v_nx, .int v_ct]))] s.heap.size = A at hD ⊢
  have hZ : ∀ q : Nat, A q → z0 ≤ q := by rw [← hAe]; exact hZ0
  have hA : ∀ q : Nat, s.heap.size ≤ q → A q := fun q h => by rw [← hAe]; exact Or.inr h
  have hS : va_S A s.heap s.heap [] := va_S.rf
  have hl := lv_entry ([.ref a_x, .int x0, .int x1, .int x2, .int x3]) (n := 5) (Nat.le_of_ble_eq_true rfl)
  rw [lg_entry_eq]
  generalize (lg_sl ([.ref a_x, .int x0, .int x1, .int x2, .int x3]) ++ List.replicate (5 - (lg_sl ([.ref a_x, .int x0, .int x1, .int x2, .int x3])).length) Slot.unset).toArray = ls at hl ⊢
  have hl : lv_has ls 5 [(0, .ref a_x), (1, .int x0), (2, .int x1), (3, .int x2), (4, .int x3)] := hl
  refine lv_aload_n hx hb d_X_segment_0 rfl (lv_at hl 0 rfl) ?_
  refine lv_aload_n hx hb d_X_segment_1 rfl (lv_at hl 0 rfl) ?_
  refine va_get (D := D) (ci := 8) (v := .ref a_g) (C := "StepMachine") (T := TX8) (N := 6) hx hb hts inU_8 hown hK hP 0 rfl rfl 1 (by decide) (hts _ a_181) (fun _ h9 => h9) rfl d_X_segment_2 ?_
  refine lv_iload_n hx hb d_X_segment_5 rfl (lv_at hl 1 rfl) ?_
  refine lv_iload_n hx hb d_X_segment_6 rfl (lv_at hl 2 rfl) ?_
  refine lv_iload_n hx hb d_X_segment_7 rfl (lv_at hl 3 rfl) ?_
  refine lv_iload hx hb d_X_segment_8 (lv_at hl 4 rfl) ?_
  obtain ⟨q_10, e_10⟩ : ∃ z, z = (cF_Guard_putSegment v_beg v_siz v_alw x0 x1 x2 x3) := ⟨_, rfl⟩
  refine wVi (As := [.int x0, .int x1, .int x2, .int x3]) (rest := [.ref a_x]) e_10 ⟨hx, hb, hml, hown, hts⟩ (cc_Guard_putSegment l D tc tb z0 _ a_g a_gb a_gs a_ga a_gm v_on v_beg v_siz v_alw x0 x1 x2 x3) (cwV 4 hts (goodV a_196 a_197 a_198 a_3 a_199) rfl rfl rfl hv_Guar_putSegment ⟨Nat.le_of_ble_eq_true rfl, Nat.le_of_ble_eq_true rfl⟩) hP hD hS hA hZ hK hB [1, 2, 3, 4] rfl (by decide) (fun _ => rfl) rfl rfl rfl hl.1 rfl (Nat.le_of_ble_eq_true rfl) d_X_segment_10 ⟨Nat.zero_le _, Nat.zero_le _⟩ (fun H locs hP hD hS => ?_)
  have hP : va_P D vwCl [(a_x, .inr (8, [.ref a_m, .ref a_g, .ref a_h, .ref a_p, .ref a_t, .ref a_c])), (a_g, .inr (1, [.ref a_gb, .ref a_gs, .ref a_ga, .ref a_gm, .int v_on])), (a_gb, .inl (tc 0, 8, .inl q_10.2.1)), (a_gs, .inl (tc 0, 8, .inl q_10.2.2.1)), (a_ga, .inl (tc 0, 8, .inl q_10.2.2.2)), (a_t, .inr (6, [.ref a_tr, .int v_nx, .int v_ct]))] H := hP
  have hD : va_D A [(a_x, .inr (8, [.ref a_m, .ref a_g, .ref a_h, .ref a_p, .ref a_t, .ref a_c])), (a_g, .inr (1, [.ref a_gb, .ref a_gs, .ref a_ga, .ref a_gm, .int v_on])), (a_gb, .inl (tc 0, 8, .inl q_10.2.1)), (a_gs, .inl (tc 0, 8, .inl q_10.2.2.1)), (a_ga, .inl (tc 0, 8, .inl q_10.2.2.2)), (a_t, .inr (6, [.ref a_tr, .int v_nx, .int v_ct]))] := hD
  obtain ⟨q_13, e_13⟩ : ∃ z, z = (cF_StepMachine_forgetIf v_ct q_10.1) := ⟨_, rfl⟩
  refine wVi (As := [.int q_10.1]) (rest := []) e_13 ⟨hx, hb, hml, hown, hts⟩ (cc_StepMachine_forgetIf l D tc tb z0 _ a_x a_t a_m a_g a_h a_p a_c a_tr v_nx v_ct q_10.1 (by rw [e_10]; exact zb_putSegment _ _ _ _ _ _ _)) (cwV 1 hts (goodV a_201 a_202 a_894 a_1 a_203) rfl rfl rfl hv_X_forgetIf ⟨Nat.le_of_ble_eq_true rfl, Nat.le_of_ble_eq_true rfl⟩) hP hD hS hA hZ hK hB [0, 5] rfl (by decide) (fun _ => rfl) rfl rfl rfl hl.1 rfl (Nat.le_of_ble_eq_true rfl) d_X_segment_13 ⟨Nat.zero_le _, Nat.zero_le _⟩ (fun H locs hP hD hS => ?_)
  have hP : va_P D vwCl [(a_x, .inr (8, [.ref a_m, .ref a_g, .ref a_h, .ref a_p, .ref a_t, .ref a_c])), (a_g, .inr (1, [.ref a_gb, .ref a_gs, .ref a_ga, .ref a_gm, .int v_on])), (a_gb, .inl (tc 0, 8, .inl q_10.2.1)), (a_gs, .inl (tc 0, 8, .inl q_10.2.2.1)), (a_ga, .inl (tc 0, 8, .inl q_10.2.2.2)), (a_t, .inr (6, [.ref a_tr, .int v_nx, .int q_13.2]))] H := hP
  have hD : va_D A [(a_x, .inr (8, [.ref a_m, .ref a_g, .ref a_h, .ref a_p, .ref a_t, .ref a_c])), (a_g, .inr (1, [.ref a_gb, .ref a_gs, .ref a_ga, .ref a_gm, .int v_on])), (a_gb, .inl (tc 0, 8, .inl q_10.2.1)), (a_gs, .inl (tc 0, 8, .inl q_10.2.2.1)), (a_ga, .inl (tc 0, 8, .inl q_10.2.2.2)), (a_t, .inr (6, [.ref a_tr, .int v_nx, .int q_13.2]))] := hD
  exact W.zret (v := q_13.1) hx hb hr (zb_of (by rw [e_13]; exact zb_forgetIf (by rw [e_10]; exact zb_putSegment _ _ _ _ _ _ _))) (fun t ht hW => ⟨⟨_, (q_10.2.1, q_10.2.2.1, q_10.2.2.2, q_13.2), rfl, by rw [cF_StepMachine_segment, ← e_10, cF_StepMachine_segment_1, ← e_13, cF_StepMachine_segment_2], by rw [ht]; exact hP, va_K.moved hW.alike hK, hD⟩, hS.F ht⟩) hS.2.2 d_X_segment_16
def cF_StepMachine_mark_2 (q_7 : Int32 × (Nat → Int32)) (q_10 : Int32 × Int32) : Int32 × (Nat → Int32) × Int32 := (q_10.1, q_7.2, q_10.2)
def cF_StepMachine_mark_1 (v_ct : Int32) (q_7 : Int32 × (Nat → Int32)) : Int32 × (Nat → Int32) × Int32 := (cF_StepMachine_mark_2 q_7 (cF_StepMachine_forgetIf v_ct q_7.1))
def cF_StepMachine_mark (v_mrk : Nat → Int32) (v_ct : Int32) (x0 : Int32) (x1 : Int32) : Int32 × (Nat → Int32) × Int32 := (cF_StepMachine_mark_1 v_ct (cF_Guard_putMark v_mrk x0 x1))
set_option maxHeartbeats 4000000 in
set_option maxRecDepth 100000 in
theorem cc_StepMachine_mark (l : Launch) (D : va_G) (tc : Nat → ClassId) (tb : Nat → Nat) (z0 : Nat) (sz : Nat) (a_x a_g a_gm a_t a_m a_h a_p a_c a_gb a_gs a_ga a_tr : Nat) (v_on : Int32) (v_mrk : Nat → Int32) (v_nx : Int32) (v_ct : Int32) (x0 : Int32) (x1 : Int32) : Met l y_X_mark (wM y_X_mark b_X_mark 3 (some .boolean)) ({ frames := 2, cells := 0, slots := 0, locals := 44 }) (va_Pc [.ref a_x, .int x0, .int x1] (Pw D tc tb z0 [(a_x, .inr (8, [.ref a_m, .ref a_g, .ref a_h, .ref a_p, .ref a_t, .ref a_c])), (a_g, .inr (1, [.ref a_gb, .ref a_gs, .ref a_ga, .ref a_gm, .int v_on])), (a_gm, .inl (tc 0, 2048, .inl v_mrk)), (a_t, .inr (6, [.ref a_tr, .int v_nx, .int v_ct]))] sz)) (va_Qi (fun (r : Int32) (u : (Nat → Int32) × Int32) => (r, u) = (cF_StepMachine_mark v_mrk v_ct x0 x1)) (Bw D tc (va_A [(a_x, .inr (8, [.ref a_m, .ref a_g, .ref a_h, .ref a_p, .ref a_t, .ref a_c])), (a_g, .inr (1, [.ref a_gb, .ref a_gs, .ref a_ga, .ref a_gm, .int v_on])), (a_gm, .inl (tc 0, 2048, .inl v_mrk)), (a_t, .inr (6, [.ref a_tr, .int v_nx, .int v_ct]))] sz) (fun u => [(a_x, .inr (8, [.ref a_m, .ref a_g, .ref a_h, .ref a_p, .ref a_t, .ref a_c])), (a_g, .inr (1, [.ref a_gb, .ref a_gs, .ref a_ga, .ref a_gm, .int v_on])), (a_gm, .inl (tc 0, 2048, .inl u.1)), (a_t, .inr (6, [.ref a_tr, .int v_nx, .int u.2]))])) (va_A [(a_x, .inr (8, [.ref a_m, .ref a_g, .ref a_h, .ref a_p, .ref a_t, .ref a_c])), (a_g, .inr (1, [.ref a_gb, .ref a_gs, .ref a_ga, .ref a_gm, .int v_on])), (a_gm, .inl (tc 0, 2048, .inl v_mrk)), (a_t, .inr (6, [.ref a_tr, .int v_nx, .int v_ct]))] sz)) 0 0 (va_A [(a_x, .inr (8, [.ref a_m, .ref a_g, .ref a_h, .ref a_p, .ref a_t, .ref a_c])), (a_g, .inr (1, [.ref a_gb, .ref a_gs, .ref a_ga, .ref a_gm, .int v_on])), (a_gm, .inl (tc 0, 2048, .inl v_mrk)), (a_t, .inr (6, [.ref a_tr, .int v_nx, .int v_ct]))] sz) := by
  refine Met.ofW (cc := b_X_mark) (maxL := 3) (ret := (some .boolean)) (by decide) rfl ?_
  intro p e s m args below meth c s₁ B hml hv
  obtain ⟨rfl, hsz, hP, hK, hB, hD0, hZ0⟩ := hv
  have hx := B.exec
  have hb := B.bytes
  have hr := B.returns
  have hts : ∀ w ∈ wALL, w.before _ s = true := fun w h => atoms_spec (ws := (wM y_X_mark b_X_mark 3 (some .boolean))) B.pre w (List.mem_cons_of_mem _ h)
  have hown : s.vm.findClass "StepMachine" = some m.cls := findClass_of_methodNamed B.named
  have hlocks := B.notSynchronized
  subst hsz
  have hD := hD0.self (sz := s.heap.size)
  generalize hAe : va_A [(a_x, .inr (8, [.ref a_m, .ref a_g, .ref a_h, .ref a_p, .ref a_t, .ref a_c])), (a_g, .inr (1, [.ref a_gb, .ref a_gs, .ref a_ga, .ref a_gm, .int v_on])), (a_gm, .inl (tc 0, 2048, .inl v_mrk)), (a_t, .inr (6, [.ref a_tr, .int v_nx, .int v_ct]))] s.heap.size = A at hD ⊢
  have hZ : ∀ q : Nat, A q → z0 ≤ q := by rw [← hAe]; exact hZ0
  have hA : ∀ q : Nat, s.heap.size ≤ q → A q := fun q h => by rw [← hAe]; exact Or.inr h
  have hS : va_S A s.heap s.heap [] := va_S.rf
  have hl := lv_entry ([.ref a_x, .int x0, .int x1]) (n := 3) (Nat.le_of_ble_eq_true rfl)
  rw [lg_entry_eq]
  generalize (lg_sl ([.ref a_x, .int x0, .int x1]) ++ List.replicate (3 - (lg_sl ([.ref a_x, .int x0, .int x1])).length) Slot.unset).toArray = ls at hl ⊢
  have hl : lv_has ls 3 [(0, .ref a_x), (1, .int x0), (2, .int x1)] := hl
  refine lv_aload_n hx hb d_X_mark_0 rfl (lv_at hl 0 rfl) ?_
  refine lv_aload_n hx hb d_X_mark_1 rfl (lv_at hl 0 rfl) ?_
  refine va_get (D := D) (ci := 8) (v := .ref a_g) (C := "StepMachine") (T := TX8) (N := 6) hx hb hts inU_8 hown hK hP 0 rfl rfl 1 (by decide) (hts _ a_181) (fun _ h9 => h9) rfl d_X_mark_2 ?_
  refine lv_iload_n hx hb d_X_mark_5 rfl (lv_at hl 1 rfl) ?_
  refine lv_iload_n hx hb d_X_mark_6 rfl (lv_at hl 2 rfl) ?_
  obtain ⟨q_7, e_7⟩ : ∃ z, z = (cF_Guard_putMark v_mrk x0 x1) := ⟨_, rfl⟩
  refine wVi (As := [.int x0, .int x1]) (rest := [.ref a_x]) e_7 ⟨hx, hb, hml, hown, hts⟩ (cc_Guard_putMark l D tc tb z0 _ a_g a_gm a_gb a_gs a_ga v_on v_mrk x0 x1) (cwV 2 hts (goodV a_212 a_213 a_214 a_3 a_215) rfl rfl rfl hv_Guar_putMark ⟨Nat.le_of_ble_eq_true rfl, Nat.le_of_ble_eq_true rfl⟩) hP hD hS hA hZ hK hB [1, 2] rfl (by decide) (fun _ => rfl) rfl rfl rfl hl.1 rfl (Nat.le_of_ble_eq_true rfl) d_X_mark_7 ⟨Nat.zero_le _, Nat.zero_le _⟩ (fun H locs hP hD hS => ?_)
  have hP : va_P D vwCl [(a_x, .inr (8, [.ref a_m, .ref a_g, .ref a_h, .ref a_p, .ref a_t, .ref a_c])), (a_g, .inr (1, [.ref a_gb, .ref a_gs, .ref a_ga, .ref a_gm, .int v_on])), (a_gm, .inl (tc 0, 2048, .inl q_7.2)), (a_t, .inr (6, [.ref a_tr, .int v_nx, .int v_ct]))] H := hP
  have hD : va_D A [(a_x, .inr (8, [.ref a_m, .ref a_g, .ref a_h, .ref a_p, .ref a_t, .ref a_c])), (a_g, .inr (1, [.ref a_gb, .ref a_gs, .ref a_ga, .ref a_gm, .int v_on])), (a_gm, .inl (tc 0, 2048, .inl q_7.2)), (a_t, .inr (6, [.ref a_tr, .int v_nx, .int v_ct]))] := hD
  obtain ⟨q_10, e_10⟩ : ∃ z, z = (cF_StepMachine_forgetIf v_ct q_7.1) := ⟨_, rfl⟩
  refine wVi (As := [.int q_7.1]) (rest := []) e_10 ⟨hx, hb, hml, hown, hts⟩ (cc_StepMachine_forgetIf l D tc tb z0 _ a_x a_t a_m a_g a_h a_p a_c a_tr v_nx v_ct q_7.1 (by rw [e_7]; exact zb_putMark _ _ _)) (cwV 1 hts (goodV a_201 a_202 a_894 a_1 a_203) rfl rfl rfl hv_X_forgetIf ⟨Nat.le_of_ble_eq_true rfl, Nat.le_of_ble_eq_true rfl⟩) hP hD hS hA hZ hK hB [0, 3] rfl (by decide) (fun _ => rfl) rfl rfl rfl hl.1 rfl (Nat.le_of_ble_eq_true rfl) d_X_mark_10 ⟨Nat.zero_le _, Nat.zero_le _⟩ (fun H locs hP hD hS => ?_)
  have hP : va_P D vwCl [(a_x, .inr (8, [.ref a_m, .ref a_g, .ref a_h, .ref a_p, .ref a_t, .ref a_c])), (a_g, .inr (1, [.ref a_gb, .ref a_gs, .ref a_ga, .ref a_gm, .int v_on])), (a_gm, .inl (tc 0, 2048, .inl q_7.2)), (a_t, .inr (6, [.ref a_tr, .int v_nx, .int q_10.2]))] H := hP
  have hD : va_D A [(a_x, .inr (8, [.ref a_m, .ref a_g, .ref a_h, .ref a_p, .ref a_t, .ref a_c])), (a_g, .inr (1, [.ref a_gb, .ref a_gs, .ref a_ga, .ref a_gm, .int v_on])), (a_gm, .inl (tc 0, 2048, .inl q_7.2)), (a_t, .inr (6, [.ref a_tr, .int v_nx, .int q_10.2]))] := hD
  exact W.zret (v := q_10.1) hx hb hr (zb_of (by rw [e_10]; exact zb_forgetIf (by rw [e_7]; exact zb_putMark _ _ _))) (fun t ht hW => ⟨⟨_, (q_7.2, q_10.2), rfl, by rw [cF_StepMachine_mark, ← e_7, cF_StepMachine_mark_1, ← e_10, cF_StepMachine_mark_2], by rw [ht]; exact hP, va_K.moved hW.alike hK, hD⟩, hS.F ht⟩) hS.2.2 d_X_mark_13
def cF_StepMachine_marking_1 (x0 : Int32) (q_12 : Int32) : Int32 × Int32 := (x0, q_12)
def cF_StepMachine_marking (x0 : Int32) : Int32 × Int32 := (cF_StepMachine_marking_1 x0 cF_Trail_forget)
set_option maxHeartbeats 4000000 in
set_option maxRecDepth 100000 in
theorem cc_StepMachine_marking (l : Launch) (D : va_G) (tc : Nat → ClassId) (tb : Nat → Nat) (z0 : Nat) (sz : Nat) (a_x a_g a_t a_m a_h a_p a_c a_gb a_gs a_ga a_gm a_tr : Nat) (v_on : Int32) (v_nx : Int32) (v_ct : Int32) (x0 : Int32) (hz : x0 = 0 ∨ x0 = 1) : Met l y_X_marking (wM y_X_marking b_X_marking 2 none) ({ frames := 1, cells := 0, slots := 0, locals := 20 }) (va_Pc [.ref a_x, .int x0] (Pw D tc tb z0 [(a_x, .inr (8, [.ref a_m, .ref a_g, .ref a_h, .ref a_p, .ref a_t, .ref a_c])), (a_g, .inr (1, [.ref a_gb, .ref a_gs, .ref a_ga, .ref a_gm, .int v_on])), (a_t, .inr (6, [.ref a_tr, .int v_nx, .int v_ct]))] sz)) (va_Qv (fun u : Int32 × Int32 => u = (cF_StepMachine_marking x0)) (Bw D tc (va_A [(a_x, .inr (8, [.ref a_m, .ref a_g, .ref a_h, .ref a_p, .ref a_t, .ref a_c])), (a_g, .inr (1, [.ref a_gb, .ref a_gs, .ref a_ga, .ref a_gm, .int v_on])), (a_t, .inr (6, [.ref a_tr, .int v_nx, .int v_ct]))] sz) (fun u => [(a_x, .inr (8, [.ref a_m, .ref a_g, .ref a_h, .ref a_p, .ref a_t, .ref a_c])), (a_g, .inr (1, [.ref a_gb, .ref a_gs, .ref a_ga, .ref a_gm, .int u.1])), (a_t, .inr (6, [.ref a_tr, .int v_nx, .int u.2]))])) (va_A [(a_x, .inr (8, [.ref a_m, .ref a_g, .ref a_h, .ref a_p, .ref a_t, .ref a_c])), (a_g, .inr (1, [.ref a_gb, .ref a_gs, .ref a_ga, .ref a_gm, .int v_on])), (a_t, .inr (6, [.ref a_tr, .int v_nx, .int v_ct]))] sz)) 0 0 (va_A [(a_x, .inr (8, [.ref a_m, .ref a_g, .ref a_h, .ref a_p, .ref a_t, .ref a_c])), (a_g, .inr (1, [.ref a_gb, .ref a_gs, .ref a_ga, .ref a_gm, .int v_on])), (a_t, .inr (6, [.ref a_tr, .int v_nx, .int v_ct]))] sz) := by
  refine Met.ofW (cc := b_X_marking) (maxL := 2) (ret := none) (by decide) rfl ?_
  intro p e s m args below meth c s₁ B hml hv
  obtain ⟨rfl, hsz, hP, hK, hB, hD0, hZ0⟩ := hv
  have hx := B.exec
  have hb := B.bytes
  have hr := B.returns
  have hts : ∀ w ∈ wALL, w.before _ s = true := fun w h => atoms_spec (ws := (wM y_X_marking b_X_marking 2 none)) B.pre w (List.mem_cons_of_mem _ h)
  have hown : s.vm.findClass "StepMachine" = some m.cls := findClass_of_methodNamed B.named
  have hlocks := B.notSynchronized
  subst hsz
  have hD := hD0.self (sz := s.heap.size)
  generalize hAe : va_A [(a_x, .inr (8, [.ref a_m, .ref a_g, .ref a_h, .ref a_p, .ref a_t, .ref a_c])), (a_g, .inr (1, [.ref a_gb, .ref a_gs, .ref a_ga, .ref a_gm, .int v_on])), (a_t, .inr (6, [.ref a_tr, .int v_nx, .int v_ct]))] s.heap.size = A at hD ⊢
  have hZ : ∀ q : Nat, A q → z0 ≤ q := by rw [← hAe]; exact hZ0
  have hA : ∀ q : Nat, s.heap.size ≤ q → A q := fun q h => by rw [← hAe]; exact Or.inr h
  have hS : va_S A s.heap s.heap [] := va_S.rf
  have hl := lv_entry ([.ref a_x, .int x0]) (n := 2) (Nat.le_of_ble_eq_true rfl)
  rw [lg_entry_eq]
  generalize (lg_sl ([.ref a_x, .int x0]) ++ List.replicate (2 - (lg_sl ([.ref a_x, .int x0])).length) Slot.unset).toArray = ls at hl ⊢
  have hl : lv_has ls 2 [(0, .ref a_x), (1, .int x0)] := hl
  refine lv_aload_n hx hb d_X_marking_0 rfl (lv_at hl 0 rfl) ?_
  refine va_get (D := D) (ci := 8) (v := .ref a_g) (C := "StepMachine") (T := TX8) (N := 6) hx hb hts inU_8 hown hK hP 0 rfl rfl 1 (by decide) (hts _ a_181) (fun _ h9 => h9) rfl d_X_marking_1 ?_
  refine lv_iload_n hx hb d_X_marking_4 rfl (lv_at hl 1 rfl) ?_
  refine va_put (D := D) (ci := 1) (v := .int x0) (ty := .boolean) (C := "StepMachine$Guard") (T := TX1) (N := 5) hx hb hts inU_1 tyX1 tyX1_ok nmX1 hown hK hP hD hS 1 rfl rfl 4 (by decide) (hts _ a_41) (fun _ h9 => h9) rfl (by decide +kernel) (zb_of hz) (zf_of hz) (Nat.le_of_ble_eq_true rfl) d_X_marking_5 (fun H locs hP hD hS => ?_)
  have hP : va_P D vwCl [(a_x, .inr (8, [.ref a_m, .ref a_g, .ref a_h, .ref a_p, .ref a_t, .ref a_c])), (a_g, .inr (1, [.ref a_gb, .ref a_gs, .ref a_ga, .ref a_gm, .int x0])), (a_t, .inr (6, [.ref a_tr, .int v_nx, .int v_ct]))] H := hP
  have hD : va_D A [(a_x, .inr (8, [.ref a_m, .ref a_g, .ref a_h, .ref a_p, .ref a_t, .ref a_c])), (a_g, .inr (1, [.ref a_gb, .ref a_gs, .ref a_ga, .ref a_gm, .int x0])), (a_t, .inr (6, [.ref a_tr, .int v_nx, .int v_ct]))] := hD
  refine lv_aload_n hx hb d_X_marking_8 rfl (lv_at hl 0 rfl) ?_
  refine va_get (D := D) (ci := 8) (v := .ref a_t) (C := "StepMachine") (T := TX8) (N := 6) hx hb hts inU_8 hown hK hP 0 rfl rfl 4 (by decide) (hts _ a_184) (fun _ h9 => h9) rfl d_X_marking_9 ?_
  obtain ⟨q_12, e_12⟩ : ∃ z, z = cF_Trail_forget := ⟨_, rfl⟩
  refine wVv (As := []) (rest := []) e_12 ⟨hx, hb, hml, hown, hts⟩ (cc_Trail_forget l D tc tb z0 _ a_t a_tr v_nx v_ct) (cwV 0 hts (goodV a_204 a_205 a_206 a_6 a_207) rfl rfl rfl hv_Trai_forget ⟨Nat.le_of_ble_eq_true rfl, Nat.le_of_ble_eq_true rfl⟩) hP hD hS hA hZ hK hB [2] rfl (by decide) (fun _ => rfl) rfl rfl rfl hl.1 rfl (Nat.le_of_ble_eq_true rfl) d_X_marking_12 ⟨Nat.zero_le _, Nat.zero_le _⟩ (fun H locs hP hD hS => ?_)
  have hP : va_P D vwCl [(a_x, .inr (8, [.ref a_m, .ref a_g, .ref a_h, .ref a_p, .ref a_t, .ref a_c])), (a_g, .inr (1, [.ref a_gb, .ref a_gs, .ref a_ga, .ref a_gm, .int x0])), (a_t, .inr (6, [.ref a_tr, .int v_nx, .int q_12]))] H := hP
  have hD : va_D A [(a_x, .inr (8, [.ref a_m, .ref a_g, .ref a_h, .ref a_p, .ref a_t, .ref a_c])), (a_g, .inr (1, [.ref a_gb, .ref a_gs, .ref a_ga, .ref a_gm, .int x0])), (a_t, .inr (6, [.ref a_tr, .int v_nx, .int q_12]))] := hD
  exact W.vret hx hb hr (fun t ht hW => ⟨⟨(x0, q_12), rfl, by rw [cF_StepMachine_marking, ← e_12, cF_StepMachine_marking_1], by rw [ht]; exact hP, va_K.moved hW.alike hK, hD⟩, hS.F ht⟩) hS.2.2 d_X_marking_15
def cF_StepMachine_poke_1 (v_memL : Nat → Int32) (q_60 : Int32 × Int32) : Int32 × (Nat → Int32) × Int32 := (q_60.1, v_memL, q_60.2)
def cF_StepMachine_poke_2 (rec_ : Int32 → (Nat → Int32) → (Int32 × (Nat → Int32) × Int32)) (k_i : Int32) (q_49 : (Nat → Int32)) : Int32 × (Nat → Int32) × Int32 := (rec_ (k_i + 1) q_49)
def cF_StepMachine_poke_L28 (v_ct : Int32) (x0 : Int32) (x1 : Int32) (x2 : Int64) : Nat → Int32 → (Nat → Int32) → Int32 × (Nat → Int32) × Int32
  | 0, _, _ => (0, fun _ => 0, 0)
  | n + 1, k_i, v_memL => (if x1 ≤ k_i then (cF_StepMachine_poke_1 v_memL (cF_StepMachine_forgetIf v_ct 1)) else (cF_StepMachine_poke_2 (cF_StepMachine_poke_L28 v_ct x0 x1 x2 n) k_i (cF_Memory_putNumber v_memL (x0 + k_i) 1 (cF_StepMachine_byteOf x2 k_i))))
def cF_StepMachine_poke (v_mem : Nat → Int32) (v_ct : Int32) (x0 : Int32) (x1 : Int32) (x2 : Int64) : Int32 × (Nat → Int32) × Int32 := (if x1 < 1 then (0, v_mem, v_ct) else (if 8 < x1 then (0, v_mem, v_ct) else (if x0 < 0 then (0, v_mem, v_ct) else (if x0 ≤ (131072 - x1) then (cF_StepMachine_poke_L28 v_ct x0 x1 x2 (x1.toNatClampNeg + 1) 0 v_mem) else (0, v_mem, v_ct)))))
set_option maxHeartbeats 4000000 in
set_option maxRecDepth 100000 in
theorem cc_StepMachine_poke (l : Launch) (D : va_G) (tc : Nat → ClassId) (tb : Nat → Nat) (z0 : Nat) (sz : Nat) (a_x a_m a_mc a_t a_g a_h a_p a_c a_tr : Nat) (v_mem : Nat → Int32) (v_nx : Int32) (v_ct : Int32) (x0 : Int32) (x1 : Int32) (x2 : Int64) : Met l y_X_poke (wM y_X_poke b_X_poke 6 (some .boolean)) ({ frames := 3, cells := 0, slots := 0, locals := 66 }) (va_Pc [.ref a_x, .int x0, .int x1, .long x2] (Pw D tc tb z0 [(a_x, .inr (8, [.ref a_m, .ref a_g, .ref a_h, .ref a_p, .ref a_t, .ref a_c])), (a_m, .inr (0, [.ref a_mc])), (a_mc, .inl (tc 0, 32768, .inl v_mem)), (a_t, .inr (6, [.ref a_tr, .int v_nx, .int v_ct]))] sz)) (va_Qi (fun (r : Int32) (u : (Nat → Int32) × Int32) => (r, u) = (cF_StepMachine_poke v_mem v_ct x0 x1 x2)) (Bw D tc (va_A [(a_x, .inr (8, [.ref a_m, .ref a_g, .ref a_h, .ref a_p, .ref a_t, .ref a_c])), (a_m, .inr (0, [.ref a_mc])), (a_mc, .inl (tc 0, 32768, .inl v_mem)), (a_t, .inr (6, [.ref a_tr, .int v_nx, .int v_ct]))] sz) (fun u => [(a_x, .inr (8, [.ref a_m, .ref a_g, .ref a_h, .ref a_p, .ref a_t, .ref a_c])), (a_m, .inr (0, [.ref a_mc])), (a_mc, .inl (tc 0, 32768, .inl u.1)), (a_t, .inr (6, [.ref a_tr, .int v_nx, .int u.2]))])) (va_A [(a_x, .inr (8, [.ref a_m, .ref a_g, .ref a_h, .ref a_p, .ref a_t, .ref a_c])), (a_m, .inr (0, [.ref a_mc])), (a_mc, .inl (tc 0, 32768, .inl v_mem)), (a_t, .inr (6, [.ref a_tr, .int v_nx, .int v_ct]))] sz)) 0 0 (va_A [(a_x, .inr (8, [.ref a_m, .ref a_g, .ref a_h, .ref a_p, .ref a_t, .ref a_c])), (a_m, .inr (0, [.ref a_mc])), (a_mc, .inl (tc 0, 32768, .inl v_mem)), (a_t, .inr (6, [.ref a_tr, .int v_nx, .int v_ct]))] sz) := by
  refine Met.ofW (cc := b_X_poke) (maxL := 6) (ret := (some .boolean)) (by decide) rfl ?_
  intro p e s m args below meth c s₁ B hml hv
  obtain ⟨rfl, hsz, hP, hK, hB, hD0, hZ0⟩ := hv
  have hx := B.exec
  have hb := B.bytes
  have hr := B.returns
  have hts : ∀ w ∈ wALL, w.before _ s = true := fun w h => atoms_spec (ws := (wM y_X_poke b_X_poke 6 (some .boolean))) B.pre w (List.mem_cons_of_mem _ h)
  have hown : s.vm.findClass "StepMachine" = some m.cls := findClass_of_methodNamed B.named
  have hlocks := B.notSynchronized
  subst hsz
  have hD := hD0.self (sz := s.heap.size)
  generalize hAe : va_A [(a_x, .inr (8, [.ref a_m, .ref a_g, .ref a_h, .ref a_p, .ref a_t, .ref a_c])), (a_m, .inr (0, [.ref a_mc])), (a_mc, .inl (tc 0, 32768, .inl v_mem)), (a_t, .inr (6, [.ref a_tr, .int v_nx, .int v_ct]))] s.heap.size = A at hD ⊢
  have hZ : ∀ q : Nat, A q → z0 ≤ q := by rw [← hAe]; exact hZ0
  have hA : ∀ q : Nat, s.heap.size ≤ q → A q := fun q h => by rw [← hAe]; exact Or.inr h
  have hS : va_S A s.heap s.heap [] := va_S.rf
  have hl := lv_entry ([.ref a_x, .int x0, .int x1, .long x2]) (n := 6) (Nat.le_of_ble_eq_true rfl)
  rw [lg_entry_eq]
  generalize (lg_sl ([.ref a_x, .int x0, .int x1, .long x2]) ++ List.replicate (6 - (lg_sl ([.ref a_x, .int x0, .int x1, .long x2])).length) Slot.unset).toArray = ls at hl ⊢
  have hl : lv_has ls 6 [(0, .ref a_x), (1, .int x0), (2, .int x1), (3, .long x2)] := hl
  refine lv_iload_n hx hb d_X_poke_0 rfl (lv_at hl 2 rfl) ?_
  refine lv_iconst (v := 1) hx hb d_X_poke_1 (by decide) ?_
  refine lv_icmp_lt (tgt := 23) hx hb d_X_poke_2 (by decide) (fun c_2 => ?_) (fun c_2 => ?_)
  · skip
    refine lv_iconst (v := 0) hx hb d_X_poke_23 (by decide) ?_
    exact W.zret (v := 0) hx hb hr rfl (fun t ht hW => ⟨⟨_, (v_mem, v_ct), rfl, by rw [cF_StepMachine_poke, if_pos c_2], by rw [ht]; exact hP, va_K.moved hW.alike hK, hD⟩, hS.F ht⟩) hS.2.2 d_X_poke_24
  · skip
    refine lv_iload_n hx hb d_X_poke_5 rfl (lv_at hl 2 rfl) ?_
    refine lv_bipush (v := 8) hx hb d_X_poke_6 (by decide) ?_
    refine lv_icmp_gt (tgt := 23) hx hb d_X_poke_8 (by decide) (fun c_8 => ?_) (fun c_8 => ?_)
    · skip
      refine lv_iconst (v := 0) hx hb d_X_poke_23 (by decide) ?_
      exact W.zret (v := 0) hx hb hr rfl (fun t ht hW => ⟨⟨_, (v_mem, v_ct), rfl, by rw [cF_StepMachine_poke, if_neg c_2, if_pos c_8], by rw [ht]; exact hP, va_K.moved hW.alike hK, hD⟩, hS.F ht⟩) hS.2.2 d_X_poke_24
    · skip
      refine lv_iload_n hx hb d_X_poke_11 rfl (lv_at hl 1 rfl) ?_
      refine lv_if_lt (tgt := 23) hx hb d_X_poke_12 (by decide) (fun c_12 => ?_) (fun c_12 => ?_)
      · skip
        refine lv_iconst (v := 0) hx hb d_X_poke_23 (by decide) ?_
        exact W.zret (v := 0) hx hb hr rfl (fun t ht hW => ⟨⟨_, (v_mem, v_ct), rfl, by rw [cF_StepMachine_poke, if_neg c_2, if_neg c_8, if_pos c_12], by rw [ht]; exact hP, va_K.moved hW.alike hK, hD⟩, hS.F ht⟩) hS.2.2 d_X_poke_24
      · skip
        refine lv_iload_n hx hb d_X_poke_15 rfl (lv_at hl 1 rfl) ?_
        refine lv_ldc (v := 131072) hx hb hown (hts _ a_227) d_X_poke_16 ?_
        refine lv_iload_n hx hb d_X_poke_18 rfl (lv_at hl 2 rfl) ?_
        refine lv_isub hx hb d_X_poke_19 ?_
        refine lv_icmp_le (tgt := 25) hx hb d_X_poke_20 (by decide) (fun c_20 => ?_) (fun c_20 => ?_)
        · skip
          refine lv_iconst (v := 0) hx hb d_X_poke_25 (by decide) ?_
          refine lv_istore (lv' := [(5, .int 0), (0, .ref a_x), (1, .int x0), (2, .int x1), (3, .long x2)]) hx hb d_X_poke_26 hl (by decide) rfl (fun ls hl => ?_)
          have loop : ∀ (n i : Nat) (v_memL : Nat → Int32) (H : Heap) (locs : List Loc) (ls : Array Slot), i ≤ x1.toNatClampNeg → x1.toNatClampNeg + 1 ≤ i + n → cF_StepMachine_poke_L28 v_ct x0 x1 x2 n (nI i) v_memL = (cF_StepMachine_poke v_mem v_ct x0 x1 x2) → va_P D vwCl [(a_x, .inr (8, [.ref a_m, .ref a_g, .ref a_h, .ref a_p, .ref a_t, .ref a_c])), (a_m, .inr (0, [.ref a_mc])), (a_mc, .inl (tc 0, 32768, .inl v_memL)), (a_t, .inr (6, [.ref a_tr, .int v_nx, .int v_ct]))] H → va_D A [(a_x, .inr (8, [.ref a_m, .ref a_g, .ref a_h, .ref a_p, .ref a_t, .ref a_c])), (a_m, .inr (0, [.ref a_mc])), (a_mc, .inl (tc 0, 32768, .inl v_memL)), (a_t, .inr (6, [.ref a_tr, .int v_nx, .int v_ct]))] → va_S A s.heap H locs → lv_has ls 6 [(5, .int (nI i)), (0, .ref a_x), (1, .int x0), (2, .int x1), (3, .long x2)] → W p l e (headSpec (wM y_X_poke b_X_poke 6 (some .boolean)) ({ frames := 3, cells := 0, slots := 0, locals := 66 })).room s m ([.ref a_x, .int x0, .int x1, .long x2]).toArray below meth c H locs 0 0 (MQ below (va_Qi (fun (r : Int32) (u : (Nat → Int32) × Int32) => (r, u) = (cF_StepMachine_poke v_mem v_ct x0 x1 x2)) (Bw D tc A (fun u => [(a_x, .inr (8, [.ref a_m, .ref a_g, .ref a_h, .ref a_p, .ref a_t, .ref a_c])), (a_m, .inr (0, [.ref a_mc])), (a_mc, .inl (tc 0, 32768, .inl u.1)), (a_t, .inr (6, [.ref a_tr, .int v_nx, .int u.2]))])) A) ([.ref a_x, .int x0, .int x1, .long x2]).toArray s 0 0 A) (F0 m 28 ls []) := by
            intro n
            induction n with
            | zero =>
              intro i v_memL H locs ls h1 h2
              exact absurd h2 (by omega)
            | succ n ih =>
              intro i v_memL H locs ls hi hn hF hP hD hS hl
              refine lv_iload hx hb d_X_poke_28 (lv_at hl 0 rfl) ?_
              refine lv_iload_n hx hb d_X_poke_30 rfl (lv_at hl 3 rfl) ?_
              refine lv_icmp_ge (tgt := 58) hx hb d_X_poke_31 (by decide) (fun c_31 => ?_) (fun c_31 => ?_)
              · skip
                refine lv_aload_n hx hb d_X_poke_58 rfl (lv_at hl 1 rfl) ?_
                refine lv_iconst (v := 1) hx hb d_X_poke_59 (by decide) ?_
                obtain ⟨q_60, e_60⟩ : ∃ z, z = (cF_StepMachine_forgetIf v_ct 1) := ⟨_, rfl⟩
                refine wVi (As := [.int 1]) (rest := []) e_60 ⟨hx, hb, hml, hown, hts⟩ (cc_StepMachine_forgetIf l D tc tb z0 _ a_x a_t a_m a_g a_h a_p a_c a_tr v_nx v_ct 1 (Or.inr rfl)) (cwV 1 hts (goodV a_201 a_202 a_894 a_1 a_203) rfl rfl rfl hv_X_forgetIf ⟨Nat.le_of_ble_eq_true rfl, Nat.le_of_ble_eq_true rfl⟩) hP hD hS hA hZ hK hB [0, 3] rfl (by decide) (fun _ => rfl) rfl rfl rfl hl.1 rfl (Nat.le_of_ble_eq_true rfl) d_X_poke_60 ⟨Nat.zero_le _, Nat.zero_le _⟩ (fun H locs hP hD hS => ?_)
                have hP : va_P D vwCl [(a_x, .inr (8, [.ref a_m, .ref a_g, .ref a_h, .ref a_p, .ref a_t, .ref a_c])), (a_m, .inr (0, [.ref a_mc])), (a_mc, .inl (tc 0, 32768, .inl v_memL)), (a_t, .inr (6, [.ref a_tr, .int v_nx, .int q_60.2]))] H := hP
                have hD : va_D A [(a_x, .inr (8, [.ref a_m, .ref a_g, .ref a_h, .ref a_p, .ref a_t, .ref a_c])), (a_m, .inr (0, [.ref a_mc])), (a_mc, .inl (tc 0, 32768, .inl v_memL)), (a_t, .inr (6, [.ref a_tr, .int v_nx, .int q_60.2]))] := hD
                exact W.zret (v := q_60.1) hx hb hr (zb_of (by rw [e_60]; exact zb_forgetIf (Or.inr rfl))) (fun t ht hW => ⟨⟨_, (v_memL, q_60.2), rfl, by rw [← hF, cF_StepMachine_poke_L28, if_pos c_31, ← e_60, cF_StepMachine_poke_1], by rw [ht]; exact hP, va_K.moved hW.alike hK, hD⟩, hS.F ht⟩) hS.2.2 d_X_poke_63
              · skip
                refine lv_aload_n hx hb d_X_poke_34 rfl (lv_at hl 1 rfl) ?_
                refine va_get (D := D) (ci := 8) (v := .ref a_m) (C := "StepMachine") (T := TX8) (N := 6) hx hb hts inU_8 hown hK hP 0 rfl rfl 0 (by decide) (hts _ a_180) (fun _ h9 => h9) rfl d_X_poke_35 ?_
                refine lv_iload_n hx hb d_X_poke_38 rfl (lv_at hl 2 rfl) ?_
                refine lv_iload hx hb d_X_poke_39 (lv_at hl 0 rfl) ?_
                refine lv_iadd hx hb d_X_poke_41 ?_
                refine lv_iconst (v := 1) hx hb d_X_poke_42 (by decide) ?_
                refine lv_lload_n hx hb d_X_poke_43 rfl (lv_at hl 4 rfl) ?_
                refine lv_iload hx hb d_X_poke_44 (lv_at hl 0 rfl) ?_
                refine roSi (As := [.long x2, .int (nI i)]) (rest := [.int 1, .int (x0 + (nI i)), .ref a_m]) ⟨hx, hb, hml, hown, hts⟩ (cc_StepMachine_byteOf l D tc tb z0 x2 (nI i)) (va_cwS 2 hts (goodS a_228 a_229 a_1 a_230) rfl rfl rfl hs_X_byteOf ⟨Nat.le_of_ble_eq_true rfl, Nat.le_of_ble_eq_true rfl⟩) (hP.sub [] rfl) hK (hB.kept hS hZ) rfl hl.1 rfl (Nat.le_of_ble_eq_true rfl) d_X_poke_46 ⟨Nat.zero_le _, Nat.zero_le _⟩ ?_
                obtain ⟨q_49, e_49⟩ : ∃ z, z = (cF_Memory_putNumber v_memL (x0 + (nI i)) 1 (cF_StepMachine_byteOf x2 (nI i))) := ⟨_, rfl⟩
                refine wVv (As := [.int (x0 + (nI i)), .int 1, .int (cF_StepMachine_byteOf x2 (nI i))]) (rest := []) e_49 ⟨hx, hb, hml, hown, hts⟩ (cc_Memory_putNumber l D tc tb z0 _ a_m a_mc v_memL (x0 + (nI i)) 1 (cF_StepMachine_byteOf x2 (nI i))) (cwV 3 hts (goodV a_231 a_232 a_233 a_2 a_234) rfl rfl rfl hv_Memo_putNumber ⟨Nat.le_of_ble_eq_true rfl, Nat.le_of_ble_eq_true rfl⟩) hP hD hS hA hZ hK hB [1, 2] rfl (by decide) (fun _ => rfl) rfl rfl rfl hl.1 rfl (Nat.le_of_ble_eq_true rfl) d_X_poke_49 ⟨Nat.zero_le _, Nat.zero_le _⟩ (fun H locs hP hD hS => ?_)
                have hP : va_P D vwCl [(a_x, .inr (8, [.ref a_m, .ref a_g, .ref a_h, .ref a_p, .ref a_t, .ref a_c])), (a_m, .inr (0, [.ref a_mc])), (a_mc, .inl (tc 0, 32768, .inl q_49)), (a_t, .inr (6, [.ref a_tr, .int v_nx, .int v_ct]))] H := hP
                have hD : va_D A [(a_x, .inr (8, [.ref a_m, .ref a_g, .ref a_h, .ref a_p, .ref a_t, .ref a_c])), (a_m, .inr (0, [.ref a_mc])), (a_mc, .inl (tc 0, 32768, .inl q_49)), (a_t, .inr (6, [.ref a_tr, .int v_nx, .int v_ct]))] := hD
                refine lv_iinc (v := ((nI i) + 1)) (lv' := [(5, .int ((nI i) + 1)), (0, .ref a_x), (1, .int x0), (2, .int x1), (3, .long x2)]) hx hb d_X_poke_52 hl (k := 0) rfl rfl (by decide) rfl (fun ls hl => ?_)
                refine lv_goto (tgt := 28) hx hb d_X_poke_55 (by decide) ?_
                exact ih (i + 1) q_49 _ _ ls (lp_lt c_31 hi) (by omega) (by rw [← hF, cF_StepMachine_poke_L28, if_neg c_31, ← e_49, cF_StepMachine_poke_2, nI_1]) hP hD hS (by have h := lv_sub hl (l' := [(5, .int ((nI i) + 1)), (0, .ref a_x), (1, .int x0), (2, .int x1), (3, .long x2)]) [0, 1, 2, 3, 4] rfl; rw [nI_1] at h; exact h)
          exact loop (x1.toNatClampNeg + 1) 0 v_mem _ _ ls (Nat.zero_le _) (by omega) (by rw [cF_StepMachine_poke, if_neg c_2, if_neg c_8, if_neg c_12, if_pos c_20, nI_0]) hP hD hS (by rw [nI_0]; exact lv_sub hl [0, 1, 2, 3, 4] rfl)
        · skip
          refine lv_iconst (v := 0) hx hb d_X_poke_23 (by decide) ?_
          exact W.zret (v := 0) hx hb hr rfl (fun t ht hW => ⟨⟨_, (v_mem, v_ct), rfl, by rw [cF_StepMachine_poke, if_neg c_2, if_neg c_8, if_neg c_12, if_neg c_20], by rw [ht]; exact hP, va_K.moved hW.alike hK, hD⟩, hS.F ht⟩) hS.2.2 d_X_poke_24
def cF_StepMachine_peek (v_mem : Nat → Int32) (x0 : Int32) : Int32 := (if (cF_Memory_has x0) = 0 then (-1) else (cF_Memory_number v_mem x0 1))
set_option maxHeartbeats 4000000 in
set_option maxRecDepth 100000 in
theorem cc_StepMachine_peek (l : Launch) (D : va_G) (tc : Nat → ClassId) (tb : Nat → Nat) (z0 : Nat) (a_x a_m a_mc a_g a_h a_p a_t a_c : Nat) (v_mem : Nat → Int32) (x0 : Int32) : Met l y_X_peek (wM y_X_peek b_X_peek 2 (some .int)) ({ frames := 3, cells := 0, slots := 0, locals := 63 }) (va_Pc [.ref a_x, .int x0] (Pr D tc tb z0 [(a_x, .inr (8, [.ref a_m, .ref a_g, .ref a_h, .ref a_p, .ref a_t, .ref a_c])), (a_m, .inr (0, [.ref a_mc])), (a_mc, .inl (tc 0, 32768, .inl v_mem))])) (vp_Si (fun r => r = (cF_StepMachine_peek v_mem x0))) 0 0 (fun _ => False) := by
  refine Met.ofW (cc := b_X_peek) (maxL := 2) (ret := (some .int)) (by decide) rfl ?_
  intro p e s m args below meth c s₁ B hml hv
  obtain ⟨rfl, hP, hK, hB⟩ := hv
  have hx := B.exec
  have hb := B.bytes
  have hr := B.returns
  have hts : ∀ w ∈ wALL, w.before _ s = true := fun w h => atoms_spec (ws := (wM y_X_peek b_X_peek 2 (some .int))) B.pre w (List.mem_cons_of_mem _ h)
  have hown : s.vm.findClass "StepMachine" = some m.cls := findClass_of_methodNamed B.named
  have hlocks := B.notSynchronized
  have hl := lv_entry ([.ref a_x, .int x0]) (n := 2) (Nat.le_of_ble_eq_true rfl)
  rw [lg_entry_eq]
  generalize (lg_sl ([.ref a_x, .int x0]) ++ List.replicate (2 - (lg_sl ([.ref a_x, .int x0])).length) Slot.unset).toArray = ls at hl ⊢
  have hl : lv_has ls 2 [(0, .ref a_x), (1, .int x0)] := hl
  refine lv_iload_n hx hb d_X_peek_0 rfl (lv_at hl 1 rfl) ?_
  refine roSi (As := [.int x0]) (rest := []) ⟨hx, hb, hml, hown, hts⟩ (cc_Memory_has l D tc tb z0 x0) (va_cwS 1 hts (goodS a_257 a_246 a_2 a_247) rfl rfl rfl hs_Memo_has ⟨Nat.le_of_ble_eq_true rfl, Nat.le_of_ble_eq_true rfl⟩) (hP.sub [] rfl) hK hB rfl hl.1 rfl (Nat.le_of_ble_eq_true rfl) d_X_peek_1 ⟨Nat.zero_le _, Nat.zero_le _⟩ ?_
  refine lv_if_eq (tgt := 19) hx hb d_X_peek_4 (by decide) (fun c_4 => ?_) (fun c_4 => ?_)
  · skip
    refine lv_iconst (v := (-1)) hx hb d_X_peek_19 (by decide) ?_
    exact W.iret (v := (-1)) hx hb hr (fun t ht hW => ⟨_, rfl, by rw [cF_StepMachine_peek, if_pos c_4], ht⟩) (fun q h => by cases h) d_X_peek_20
  · skip
    refine lv_aload_n hx hb d_X_peek_7 rfl (lv_at hl 0 rfl) ?_
    refine va_get (D := D) (ci := 8) (v := .ref a_m) (C := "StepMachine") (T := TX8) (N := 6) hx hb hts inU_8 hown hK hP 0 rfl rfl 0 (by decide) (hts _ a_180) (fun _ h9 => h9) rfl d_X_peek_8 ?_
    refine lv_iload_n hx hb d_X_peek_11 rfl (lv_at hl 1 rfl) ?_
    refine lv_iconst (v := 1) hx hb d_X_peek_12 (by decide) ?_
    refine roVi (As := [.int x0, .int 1]) (rest := []) ⟨hx, hb, hml, hown, hts⟩ (cc_Memory_number l D tc tb z0 a_m a_mc v_mem x0 1) (cwV 2 hts (goodV a_258 a_259 a_260 a_2 a_261) rfl rfl rfl hv_Memo_number ⟨Nat.le_of_ble_eq_true rfl, Nat.le_of_ble_eq_true rfl⟩) (hP.sub [1, 2] rfl) hK hB rfl rfl rfl hl.1 rfl (Nat.le_of_ble_eq_true rfl) d_X_peek_13 ⟨Nat.zero_le _, Nat.zero_le _⟩ ?_
    refine lv_goto (tgt := 20) hx hb d_X_peek_16 (by decide) ?_
    exact W.iret (v := (cF_Memory_number v_mem x0 1)) hx hb hr (fun t ht hW => ⟨_, rfl, by rw [cF_StepMachine_peek, if_neg c_4], ht⟩) (fun q h => by cases h) d_X_peek_20
def cF_StepMachine_set_6 (v_pc : Int32) (v_reg : Nat → Int32) (q_12 : Int32 × Int32) (q_17 : Int32 × Int32) : Int32 × Int32 × Int32 × Int32 × (Nat → Int32) × Int32 := (q_17.1, v_pc, q_12.1, q_12.2, v_reg, q_17.2)
def cF_StepMachine_set_5 (v_pc : Int32) (v_reg : Nat → Int32) (v_ct : Int32) (q_12 : Int32 × Int32) : Int32 × Int32 × Int32 × Int32 × (Nat → Int32) × Int32 := (cF_StepMachine_set_6 v_pc v_reg q_12 (cF_StepMachine_forgetIf v_ct 1))
def cF_StepMachine_set_4 (v_st : Int32) (v_cu : Int32) (v_reg : Nat → Int32) (q_33 : Int32 × Int32) (q_36 : Int32 × Int32) : Int32 × Int32 × Int32 × Int32 × (Nat → Int32) × Int32 := (q_36.1, q_33.2, v_st, v_cu, v_reg, q_36.2)
def cF_StepMachine_set_3 (v_st : Int32) (v_cu : Int32) (v_reg : Nat → Int32) (v_ct : Int32) (q_33 : Int32 × Int32) : Int32 × Int32 × Int32 × Int32 × (Nat → Int32) × Int32 := (cF_StepMachine_set_4 v_st v_cu v_reg q_33 (cF_StepMachine_forgetIf v_ct q_33.1))
def cF_StepMachine_set_2 (v_pc : Int32) (v_st : Int32) (v_cu : Int32) (q_47 : Int32 × (Nat → Int32)) (q_50 : Int32 × Int32) : Int32 × Int32 × Int32 × Int32 × (Nat → Int32) × Int32 := (q_50.1, v_pc, v_st, v_cu, q_47.2, q_50.2)
def cF_StepMachine_set_1 (v_pc : Int32) (v_st : Int32) (v_cu : Int32) (v_ct : Int32) (q_47 : Int32 × (Nat → Int32)) : Int32 × Int32 × Int32 × Int32 × (Nat → Int32) × Int32 := (cF_StepMachine_set_2 v_pc v_st v_cu q_47 (cF_StepMachine_forgetIf v_ct q_47.1))
def cF_StepMachine_set (v_pc : Int32) (v_st : Int32) (v_cu : Int32) (v_reg : Nat → Int32) (v_ct : Int32) (x0 : Int32) (x1 : Int32) : Int32 × Int32 × Int32 × Int32 × (Nat → Int32) × Int32 := (if x0 = 33 then (cF_StepMachine_set_5 v_pc v_reg v_ct (cF_Core_become 0 0)) else (if x0 = 32 then (cF_StepMachine_set_3 v_st v_cu v_reg v_ct (cF_Core_putPc v_pc x1)) else (cF_StepMachine_set_1 v_pc v_st v_cu v_ct (cF_Core_putRegister v_reg x0 x1))))
set_option maxHeartbeats 4000000 in
set_option maxRecDepth 100000 in
theorem cc_StepMachine_set (l : Launch) (D : va_G) (tc : Nat → ClassId) (tb : Nat → Nat) (z0 : Nat) (sz : Nat) (a_x a_c a_r a_t a_m a_g a_h a_p a_w a_tr : Nat) (v_pc : Int32) (v_st : Int32) (v_cu : Int32) (v_va : Int32) (v_sp : Int32) (v_un : Int32) (v_reg : Nat → Int32) (v_nx : Int32) (v_ct : Int32) (x0 : Int32) (x1 : Int32) : Met l y_X_set (wM y_X_set b_X_set 3 (some .boolean)) ({ frames := 2, cells := 0, slots := 0, locals := 41 }) (va_Pc [.ref a_x, .int x0, .int x1] (Pw D tc tb z0 [(a_x, .inr (8, [.ref a_m, .ref a_g, .ref a_h, .ref a_p, .ref a_t, .ref a_c])), (a_c, .inr (7, [.ref a_m, .ref a_g, .ref a_p, .ref a_t, .ref a_w, .ref a_r, .int v_pc, .int v_st, .int v_cu, .int v_va, .int v_sp, .int v_un])), (a_r, .inl (tc 0, 32, .inl v_reg)), (a_t, .inr (6, [.ref a_tr, .int v_nx, .int v_ct]))] sz)) (va_Qi (fun (r : Int32) (u : Int32 × Int32 × Int32 × (Nat → Int32) × Int32) => (r, u) = (cF_StepMachine_set v_pc v_st v_cu v_reg v_ct x0 x1)) (Bw D tc (va_A [(a_x, .inr (8, [.ref a_m, .ref a_g, .ref a_h, .ref a_p, .ref a_t, .ref a_c])), (a_c, .inr (7, [.ref a_m, .ref a_g, .ref a_p, .ref a_t, .ref a_w, .ref a_r, .int v_pc, .int v_st, .int v_cu, .int v_va, .int v_sp, .int v_un])), (a_r, .inl (tc 0, 32, .inl v_reg)), (a_t, .inr (6, [.ref a_tr, .int v_nx, .int v_ct]))] sz) (fun u => [(a_x, .inr (8, [.ref a_m, .ref a_g, .ref a_h, .ref a_p, .ref a_t, .ref a_c])), (a_c, .inr (7, [.ref a_m, .ref a_g, .ref a_p, .ref a_t, .ref a_w, .ref a_r, .int u.1, .int u.2.1, .int u.2.2.1, .int v_va, .int v_sp, .int v_un])), (a_r, .inl (tc 0, 32, .inl u.2.2.2.1)), (a_t, .inr (6, [.ref a_tr, .int v_nx, .int u.2.2.2.2]))])) (va_A [(a_x, .inr (8, [.ref a_m, .ref a_g, .ref a_h, .ref a_p, .ref a_t, .ref a_c])), (a_c, .inr (7, [.ref a_m, .ref a_g, .ref a_p, .ref a_t, .ref a_w, .ref a_r, .int v_pc, .int v_st, .int v_cu, .int v_va, .int v_sp, .int v_un])), (a_r, .inl (tc 0, 32, .inl v_reg)), (a_t, .inr (6, [.ref a_tr, .int v_nx, .int v_ct]))] sz)) 0 0 (va_A [(a_x, .inr (8, [.ref a_m, .ref a_g, .ref a_h, .ref a_p, .ref a_t, .ref a_c])), (a_c, .inr (7, [.ref a_m, .ref a_g, .ref a_p, .ref a_t, .ref a_w, .ref a_r, .int v_pc, .int v_st, .int v_cu, .int v_va, .int v_sp, .int v_un])), (a_r, .inl (tc 0, 32, .inl v_reg)), (a_t, .inr (6, [.ref a_tr, .int v_nx, .int v_ct]))] sz) := by
  refine Met.ofW (cc := b_X_set) (maxL := 3) (ret := (some .boolean)) (by decide) rfl ?_
  intro p e s m args below meth c s₁ B hml hv
  obtain ⟨rfl, hsz, hP, hK, hB, hD0, hZ0⟩ := hv
  have hx := B.exec
  have hb := B.bytes
  have hr := B.returns
  have hts : ∀ w ∈ wALL, w.before _ s = true := fun w h => atoms_spec (ws := (wM y_X_set b_X_set 3 (some .boolean))) B.pre w (List.mem_cons_of_mem _ h)
  have hown : s.vm.findClass "StepMachine" = some m.cls := findClass_of_methodNamed B.named
  have hlocks := B.notSynchronized
  subst hsz
  have hD := hD0.self (sz := s.heap.size)
  generalize hAe : va_A [(a_x, .inr (8, [.ref a_m, .ref a_g, .ref a_h, .ref a_p, .ref a_t, .ref a_c])), (a_c, .inr (7, [.ref a_m, .ref a_g, .ref a_p, .ref a_t, .ref a_w, .ref a_r, .int v_pc, .int v_st, .int v_cu, .int v_va, .int v_sp, .int v_un])), (a_r, .inl (tc 0, 32, .inl v_reg)), (a_t, .inr (6, [.ref a_tr, .int v_nx, .int v_ct]))] s.heap.size = A at hD ⊢
  have hZ : ∀ q : Nat, A q → z0 ≤ q := by rw [← hAe]; exact hZ0
  have hA : ∀ q : Nat, s.heap.size ≤ q → A q := fun q h => by rw [← hAe]; exact Or.inr h
  have hS : va_S A s.heap s.heap [] := va_S.rf
  have hl := lv_entry ([.ref a_x, .int x0, .int x1]) (n := 3) (Nat.le_of_ble_eq_true rfl)
  rw [lg_entry_eq]
  generalize (lg_sl ([.ref a_x, .int x0, .int x1]) ++ List.replicate (3 - (lg_sl ([.ref a_x, .int x0, .int x1])).length) Slot.unset).toArray = ls at hl ⊢
  have hl : lv_has ls 3 [(0, .ref a_x), (1, .int x0), (2, .int x1)] := hl
  refine lv_iload_n hx hb d_X_set_0 rfl (lv_at hl 1 rfl) ?_
  refine lv_bipush (v := 33) hx hb d_X_set_1 (by decide) ?_
  refine lv_icmp_ne (tgt := 21) hx hb d_X_set_3 (by decide) (fun c_3 => ?_) (fun c_3 => ?_)
  · skip
    refine lv_iload_n hx hb d_X_set_21 rfl (lv_at hl 1 rfl) ?_
    refine lv_bipush (v := 32) hx hb d_X_set_22 (by decide) ?_
    refine lv_icmp_ne (tgt := 40) hx hb d_X_set_24 (by decide) (fun c_24 => ?_) (fun c_24 => ?_)
    · skip
      refine lv_aload_n hx hb d_X_set_40 rfl (lv_at hl 0 rfl) ?_
      refine lv_aload_n hx hb d_X_set_41 rfl (lv_at hl 0 rfl) ?_
      refine va_get (D := D) (ci := 8) (v := .ref a_c) (C := "StepMachine") (T := TX8) (N := 6) hx hb hts inU_8 hown hK hP 0 rfl rfl 5 (by decide) (hts _ a_185) (fun _ h9 => h9) rfl d_X_set_42 ?_
      refine lv_iload_n hx hb d_X_set_45 rfl (lv_at hl 1 rfl) ?_
      refine lv_iload_n hx hb d_X_set_46 rfl (lv_at hl 2 rfl) ?_
      obtain ⟨q_47, e_47⟩ : ∃ z, z = (cF_Core_putRegister v_reg x0 x1) := ⟨_, rfl⟩
      refine wVi (As := [.int x0, .int x1]) (rest := [.ref a_x]) e_47 ⟨hx, hb, hml, hown, hts⟩ (cc_Core_putRegister l D tc tb z0 _ a_c a_r a_m a_g a_p a_t a_w v_pc v_st v_cu v_va v_sp v_un v_reg x0 x1) (cwV 2 hts (goodV a_274 a_275 a_276 a_8 a_277) rfl rfl rfl hv_Core_putRegister ⟨Nat.le_of_ble_eq_true rfl, Nat.le_of_ble_eq_true rfl⟩) hP hD hS hA hZ hK hB [1, 2] rfl (by decide) (fun _ => rfl) rfl rfl rfl hl.1 rfl (Nat.le_of_ble_eq_true rfl) d_X_set_47 ⟨Nat.zero_le _, Nat.zero_le _⟩ (fun H locs hP hD hS => ?_)
      have hP : va_P D vwCl [(a_x, .inr (8, [.ref a_m, .ref a_g, .ref a_h, .ref a_p, .ref a_t, .ref a_c])), (a_c, .inr (7, [.ref a_m, .ref a_g, .ref a_p, .ref a_t, .ref a_w, .ref a_r, .int v_pc, .int v_st, .int v_cu, .int v_va, .int v_sp, .int v_un])), (a_r, .inl (tc 0, 32, .inl q_47.2)), (a_t, .inr (6, [.ref a_tr, .int v_nx, .int v_ct]))] H := hP
      have hD : va_D A [(a_x, .inr (8, [.ref a_m, .ref a_g, .ref a_h, .ref a_p, .ref a_t, .ref a_c])), (a_c, .inr (7, [.ref a_m, .ref a_g, .ref a_p, .ref a_t, .ref a_w, .ref a_r, .int v_pc, .int v_st, .int v_cu, .int v_va, .int v_sp, .int v_un])), (a_r, .inl (tc 0, 32, .inl q_47.2)), (a_t, .inr (6, [.ref a_tr, .int v_nx, .int v_ct]))] := hD
      obtain ⟨q_50, e_50⟩ : ∃ z, z = (cF_StepMachine_forgetIf v_ct q_47.1) := ⟨_, rfl⟩
      refine wVi (As := [.int q_47.1]) (rest := []) e_50 ⟨hx, hb, hml, hown, hts⟩ (cc_StepMachine_forgetIf l D tc tb z0 _ a_x a_t a_m a_g a_h a_p a_c a_tr v_nx v_ct q_47.1 (by rw [e_47]; exact zb_putRegister _ _ _)) (cwV 1 hts (goodV a_201 a_202 a_894 a_1 a_203) rfl rfl rfl hv_X_forgetIf ⟨Nat.le_of_ble_eq_true rfl, Nat.le_of_ble_eq_true rfl⟩) hP hD hS hA hZ hK hB [0, 3] rfl (by decide) (fun _ => rfl) rfl rfl rfl hl.1 rfl (Nat.le_of_ble_eq_true rfl) d_X_set_50 ⟨Nat.zero_le _, Nat.zero_le _⟩ (fun H locs hP hD hS => ?_)
      have hP : va_P D vwCl [(a_x, .inr (8, [.ref a_m, .ref a_g, .ref a_h, .ref a_p, .ref a_t, .ref a_c])), (a_c, .inr (7, [.ref a_m, .ref a_g, .ref a_p, .ref a_t, .ref a_w, .ref a_r, .int v_pc, .int v_st, .int v_cu, .int v_va, .int v_sp, .int v_un])), (a_r, .inl (tc 0, 32, .inl q_47.2)), (a_t, .inr (6, [.ref a_tr, .int v_nx, .int q_50.2]))] H := hP
      have hD : va_D A [(a_x, .inr (8, [.ref a_m, .ref a_g, .ref a_h, .ref a_p, .ref a_t, .ref a_c])), (a_c, .inr (7, [.ref a_m, .ref a_g, .ref a_p, .ref a_t, .ref a_w, .ref a_r, .int v_pc, .int v_st, .int v_cu, .int v_va, .int v_sp, .int v_un])), (a_r, .inl (tc 0, 32, .inl q_47.2)), (a_t, .inr (6, [.ref a_tr, .int v_nx, .int q_50.2]))] := hD
      exact W.zret (v := q_50.1) hx hb hr (zb_of (by rw [e_50]; exact zb_forgetIf (by rw [e_47]; exact zb_putRegister _ _ _))) (fun t ht hW => ⟨⟨_, (v_pc, v_st, v_cu, q_47.2, q_50.2), rfl, by rw [cF_StepMachine_set, if_neg c_3, if_neg c_24, ← e_47, cF_StepMachine_set_1, ← e_50, cF_StepMachine_set_2], by rw [ht]; exact hP, va_K.moved hW.alike hK, hD⟩, hS.F ht⟩) hS.2.2 d_X_set_53
    · skip
      refine lv_aload_n hx hb d_X_set_27 rfl (lv_at hl 0 rfl) ?_
      refine lv_aload_n hx hb d_X_set_28 rfl (lv_at hl 0 rfl) ?_
      refine va_get (D := D) (ci := 8) (v := .ref a_c) (C := "StepMachine") (T := TX8) (N := 6) hx hb hts inU_8 hown hK hP 0 rfl rfl 5 (by decide) (hts _ a_185) (fun _ h9 => h9) rfl d_X_set_29 ?_
      refine lv_iload_n hx hb d_X_set_32 rfl (lv_at hl 2 rfl) ?_
      obtain ⟨q_33, e_33⟩ : ∃ z, z = (cF_Core_putPc v_pc x1) := ⟨_, rfl⟩
      refine wVi (As := [.int x1]) (rest := [.ref a_x]) e_33 ⟨hx, hb, hml, hown, hts⟩ (cc_Core_putPc l D tc tb z0 _ a_c a_m a_g a_p a_t a_w a_r v_pc v_st v_cu v_va v_sp v_un x1) (cwV 1 hts (goodV a_270 a_271 a_272 a_8 a_273) rfl rfl rfl hv_Core_putPc ⟨Nat.le_of_ble_eq_true rfl, Nat.le_of_ble_eq_true rfl⟩) hP hD hS hA hZ hK hB [1] rfl (by decide) (fun _ => rfl) rfl rfl rfl hl.1 rfl (Nat.le_of_ble_eq_true rfl) d_X_set_33 ⟨Nat.zero_le _, Nat.zero_le _⟩ (fun H locs hP hD hS => ?_)
      have hP : va_P D vwCl [(a_x, .inr (8, [.ref a_m, .ref a_g, .ref a_h, .ref a_p, .ref a_t, .ref a_c])), (a_c, .inr (7, [.ref a_m, .ref a_g, .ref a_p, .ref a_t, .ref a_w, .ref a_r, .int q_33.2, .int v_st, .int v_cu, .int v_va, .int v_sp, .int v_un])), (a_r, .inl (tc 0, 32, .inl v_reg)), (a_t, .inr (6, [.ref a_tr, .int v_nx, .int v_ct]))] H := hP
      have hD : va_D A [(a_x, .inr (8, [.ref a_m, .ref a_g, .ref a_h, .ref a_p, .ref a_t, .ref a_c])), (a_c, .inr (7, [.ref a_m, .ref a_g, .ref a_p, .ref a_t, .ref a_w, .ref a_r, .int q_33.2, .int v_st, .int v_cu, .int v_va, .int v_sp, .int v_un])), (a_r, .inl (tc 0, 32, .inl v_reg)), (a_t, .inr (6, [.ref a_tr, .int v_nx, .int v_ct]))] := hD
      obtain ⟨q_36, e_36⟩ : ∃ z, z = (cF_StepMachine_forgetIf v_ct q_33.1) := ⟨_, rfl⟩
      refine wVi (As := [.int q_33.1]) (rest := []) e_36 ⟨hx, hb, hml, hown, hts⟩ (cc_StepMachine_forgetIf l D tc tb z0 _ a_x a_t a_m a_g a_h a_p a_c a_tr v_nx v_ct q_33.1 (by rw [e_33]; exact zb_putPc _ _)) (cwV 1 hts (goodV a_201 a_202 a_894 a_1 a_203) rfl rfl rfl hv_X_forgetIf ⟨Nat.le_of_ble_eq_true rfl, Nat.le_of_ble_eq_true rfl⟩) hP hD hS hA hZ hK hB [0, 3] rfl (by decide) (fun _ => rfl) rfl rfl rfl hl.1 rfl (Nat.le_of_ble_eq_true rfl) d_X_set_36 ⟨Nat.zero_le _, Nat.zero_le _⟩ (fun H locs hP hD hS => ?_)
      have hP : va_P D vwCl [(a_x, .inr (8, [.ref a_m, .ref a_g, .ref a_h, .ref a_p, .ref a_t, .ref a_c])), (a_c, .inr (7, [.ref a_m, .ref a_g, .ref a_p, .ref a_t, .ref a_w, .ref a_r, .int q_33.2, .int v_st, .int v_cu, .int v_va, .int v_sp, .int v_un])), (a_r, .inl (tc 0, 32, .inl v_reg)), (a_t, .inr (6, [.ref a_tr, .int v_nx, .int q_36.2]))] H := hP
      have hD : va_D A [(a_x, .inr (8, [.ref a_m, .ref a_g, .ref a_h, .ref a_p, .ref a_t, .ref a_c])), (a_c, .inr (7, [.ref a_m, .ref a_g, .ref a_p, .ref a_t, .ref a_w, .ref a_r, .int q_33.2, .int v_st, .int v_cu, .int v_va, .int v_sp, .int v_un])), (a_r, .inl (tc 0, 32, .inl v_reg)), (a_t, .inr (6, [.ref a_tr, .int v_nx, .int q_36.2]))] := hD
      exact W.zret (v := q_36.1) hx hb hr (zb_of (by rw [e_36]; exact zb_forgetIf (by rw [e_33]; exact zb_putPc _ _))) (fun t ht hW => ⟨⟨_, (q_33.2, v_st, v_cu, v_reg, q_36.2), rfl, by rw [cF_StepMachine_set, if_neg c_3, if_pos c_24, ← e_33, cF_StepMachine_set_3, ← e_36, cF_StepMachine_set_4], by rw [ht]; exact hP, va_K.moved hW.alike hK, hD⟩, hS.F ht⟩) hS.2.2 d_X_set_39
  · skip
    refine lv_aload_n hx hb d_X_set_6 rfl (lv_at hl 0 rfl) ?_
    refine va_get (D := D) (ci := 8) (v := .ref a_c) (C := "StepMachine") (T := TX8) (N := 6) hx hb hts inU_8 hown hK hP 0 rfl rfl 5 (by decide) (hts _ a_185) (fun _ h9 => h9) rfl d_X_set_7 ?_
    refine lv_iconst (v := 0) hx hb d_X_set_10 (by decide) ?_
    refine lv_iconst (v := 0) hx hb d_X_set_11 (by decide) ?_
    obtain ⟨q_12, e_12⟩ : ∃ z, z = (cF_Core_become 0 0) := ⟨_, rfl⟩
    refine wVv (As := [.int 0, .int 0]) (rest := []) e_12 ⟨hx, hb, hml, hown, hts⟩ (cc_Core_become l D tc tb z0 _ a_c a_m a_g a_p a_t a_w a_r v_pc v_st v_cu v_va v_sp v_un 0 0) (cwV 2 hts (goodV a_266 a_267 a_268 a_8 a_269) rfl rfl rfl hv_Core_become ⟨Nat.le_of_ble_eq_true rfl, Nat.le_of_ble_eq_true rfl⟩) hP hD hS hA hZ hK hB [1] rfl (by decide) (fun _ => rfl) rfl rfl rfl hl.1 rfl (Nat.le_of_ble_eq_true rfl) d_X_set_12 ⟨Nat.zero_le _, Nat.zero_le _⟩ (fun H locs hP hD hS => ?_)
    have hP : va_P D vwCl [(a_x, .inr (8, [.ref a_m, .ref a_g, .ref a_h, .ref a_p, .ref a_t, .ref a_c])), (a_c, .inr (7, [.ref a_m, .ref a_g, .ref a_p, .ref a_t, .ref a_w, .ref a_r, .int v_pc, .int q_12.1, .int q_12.2, .int v_va, .int v_sp, .int v_un])), (a_r, .inl (tc 0, 32, .inl v_reg)), (a_t, .inr (6, [.ref a_tr, .int v_nx, .int v_ct]))] H := hP
    have hD : va_D A [(a_x, .inr (8, [.ref a_m, .ref a_g, .ref a_h, .ref a_p, .ref a_t, .ref a_c])), (a_c, .inr (7, [.ref a_m, .ref a_g, .ref a_p, .ref a_t, .ref a_w, .ref a_r, .int v_pc, .int q_12.1, .int q_12.2, .int v_va, .int v_sp, .int v_un])), (a_r, .inl (tc 0, 32, .inl v_reg)), (a_t, .inr (6, [.ref a_tr, .int v_nx, .int v_ct]))] := hD
    refine lv_aload_n hx hb d_X_set_15 rfl (lv_at hl 0 rfl) ?_
    refine lv_iconst (v := 1) hx hb d_X_set_16 (by decide) ?_
    obtain ⟨q_17, e_17⟩ : ∃ z, z = (cF_StepMachine_forgetIf v_ct 1) := ⟨_, rfl⟩
    refine wVi (As := [.int 1]) (rest := []) e_17 ⟨hx, hb, hml, hown, hts⟩ (cc_StepMachine_forgetIf l D tc tb z0 _ a_x a_t a_m a_g a_h a_p a_c a_tr v_nx v_ct 1 (Or.inr rfl)) (cwV 1 hts (goodV a_201 a_202 a_894 a_1 a_203) rfl rfl rfl hv_X_forgetIf ⟨Nat.le_of_ble_eq_true rfl, Nat.le_of_ble_eq_true rfl⟩) hP hD hS hA hZ hK hB [0, 3] rfl (by decide) (fun _ => rfl) rfl rfl rfl hl.1 rfl (Nat.le_of_ble_eq_true rfl) d_X_set_17 ⟨Nat.zero_le _, Nat.zero_le _⟩ (fun H locs hP hD hS => ?_)
    have hP : va_P D vwCl [(a_x, .inr (8, [.ref a_m, .ref a_g, .ref a_h, .ref a_p, .ref a_t, .ref a_c])), (a_c, .inr (7, [.ref a_m, .ref a_g, .ref a_p, .ref a_t, .ref a_w, .ref a_r, .int v_pc, .int q_12.1, .int q_12.2, .int v_va, .int v_sp, .int v_un])), (a_r, .inl (tc 0, 32, .inl v_reg)), (a_t, .inr (6, [.ref a_tr, .int v_nx, .int q_17.2]))] H := hP
    have hD : va_D A [(a_x, .inr (8, [.ref a_m, .ref a_g, .ref a_h, .ref a_p, .ref a_t, .ref a_c])), (a_c, .inr (7, [.ref a_m, .ref a_g, .ref a_p, .ref a_t, .ref a_w, .ref a_r, .int v_pc, .int q_12.1, .int q_12.2, .int v_va, .int v_sp, .int v_un])), (a_r, .inl (tc 0, 32, .inl v_reg)), (a_t, .inr (6, [.ref a_tr, .int v_nx, .int q_17.2]))] := hD
    exact W.zret (v := q_17.1) hx hb hr (zb_of (by rw [e_17]; exact zb_forgetIf (Or.inr rfl))) (fun t ht hW => ⟨⟨_, (v_pc, q_12.1, q_12.2, v_reg, q_17.2), rfl, by rw [cF_StepMachine_set, if_pos c_3, ← e_12, cF_StepMachine_set_5, ← e_17, cF_StepMachine_set_6], by rw [ht]; exact hP, va_K.moved hW.alike hK, hD⟩, hS.F ht⟩) hS.2.2 d_X_set_20
def cF_StepMachine_get (v_pc : Int32) (v_reg : Nat → Int32) (x0 : Int32) : Int32 := (if x0 = 32 then v_pc else (cF_Core_register v_reg x0))
set_option maxHeartbeats 4000000 in
set_option maxRecDepth 100000 in
theorem cc_StepMachine_get (l : Launch) (D : va_G) (tc : Nat → ClassId) (tb : Nat → Nat) (z0 : Nat) (a_x a_c a_r a_m a_g a_h a_p a_t a_w : Nat) (v_pc : Int32) (v_st : Int32) (v_cu : Int32) (v_va : Int32) (v_sp : Int32) (v_un : Int32) (v_reg : Nat → Int32) (x0 : Int32) : Met l y_X_get (wM y_X_get b_X_get 2 (some .int)) ({ frames := 1, cells := 0, slots := 0, locals := 21 }) (va_Pc [.ref a_x, .int x0] (Pr D tc tb z0 [(a_x, .inr (8, [.ref a_m, .ref a_g, .ref a_h, .ref a_p, .ref a_t, .ref a_c])), (a_c, .inr (7, [.ref a_m, .ref a_g, .ref a_p, .ref a_t, .ref a_w, .ref a_r, .int v_pc, .int v_st, .int v_cu, .int v_va, .int v_sp, .int v_un])), (a_r, .inl (tc 0, 32, .inl v_reg))])) (vp_Si (fun r => r = (cF_StepMachine_get v_pc v_reg x0))) 0 0 (fun _ => False) := by
  refine Met.ofW (cc := b_X_get) (maxL := 2) (ret := (some .int)) (by decide) rfl ?_
  intro p e s m args below meth c s₁ B hml hv
  obtain ⟨rfl, hP, hK, hB⟩ := hv
  have hx := B.exec
  have hb := B.bytes
  have hr := B.returns
  have hts : ∀ w ∈ wALL, w.before _ s = true := fun w h => atoms_spec (ws := (wM y_X_get b_X_get 2 (some .int))) B.pre w (List.mem_cons_of_mem _ h)
  have hown : s.vm.findClass "StepMachine" = some m.cls := findClass_of_methodNamed B.named
  have hlocks := B.notSynchronized
  have hl := lv_entry ([.ref a_x, .int x0]) (n := 2) (Nat.le_of_ble_eq_true rfl)
  rw [lg_entry_eq]
  generalize (lg_sl ([.ref a_x, .int x0]) ++ List.replicate (2 - (lg_sl ([.ref a_x, .int x0])).length) Slot.unset).toArray = ls at hl ⊢
  have hl : lv_has ls 2 [(0, .ref a_x), (1, .int x0)] := hl
  refine lv_iload_n hx hb d_X_get_0 rfl (lv_at hl 1 rfl) ?_
  refine lv_bipush (v := 32) hx hb d_X_get_1 (by decide) ?_
  refine lv_icmp_ne (tgt := 16) hx hb d_X_get_3 (by decide) (fun c_3 => ?_) (fun c_3 => ?_)
  · skip
    refine lv_aload_n hx hb d_X_get_16 rfl (lv_at hl 0 rfl) ?_
    refine va_get (D := D) (ci := 8) (v := .ref a_c) (C := "StepMachine") (T := TX8) (N := 6) hx hb hts inU_8 hown hK hP 0 rfl rfl 5 (by decide) (hts _ a_185) (fun _ h9 => h9) rfl d_X_get_17 ?_
    refine lv_iload_n hx hb d_X_get_20 rfl (lv_at hl 1 rfl) ?_
    refine roVi (As := [.int x0]) (rest := []) ⟨hx, hb, hml, hown, hts⟩ (cc_Core_register l D tc tb z0 a_c a_r a_m a_g a_p a_t a_w v_pc v_st v_cu v_va v_sp v_un v_reg x0) (cwV 1 hts (goodV a_282 a_283 a_284 a_8 a_285) rfl rfl rfl hv_Core_register ⟨Nat.le_of_ble_eq_true rfl, Nat.le_of_ble_eq_true rfl⟩) (hP.sub [1, 2] rfl) hK hB rfl rfl rfl hl.1 rfl (Nat.le_of_ble_eq_true rfl) d_X_get_21 ⟨Nat.zero_le _, Nat.zero_le _⟩ ?_
    exact W.iret (v := (cF_Core_register v_reg x0)) hx hb hr (fun t ht hW => ⟨_, rfl, by rw [cF_StepMachine_get, if_neg c_3], ht⟩) (fun q h => by cases h) d_X_get_24
  · skip
    refine lv_aload_n hx hb d_X_get_6 rfl (lv_at hl 0 rfl) ?_
    refine va_get (D := D) (ci := 8) (v := .ref a_c) (C := "StepMachine") (T := TX8) (N := 6) hx hb hts inU_8 hown hK hP 0 rfl rfl 5 (by decide) (hts _ a_185) (fun _ h9 => h9) rfl d_X_get_7 ?_
    refine va_get (D := D) (ci := 7) (v := .int v_pc) (C := "StepMachine$Core") (T := TX7) (N := 12) hx hb hts inU_7 hown hK hP 1 rfl rfl 6 (by decide) (hts _ a_157) (fun _ h9 => h9) rfl d_X_get_10 ?_
    refine lv_goto (tgt := 24) hx hb d_X_get_13 (by decide) ?_
    exact W.iret (v := v_pc) hx hb hr (fun t ht hW => ⟨_, rfl, by rw [cF_StepMachine_get, if_pos c_3], ht⟩) (fun q h => by cases h) d_X_get_24
def cF_StepMachine_input_1 (v_inL : Nat → Int32) (v_givL : Int32) (q_54 : Int32 × Int32) : Int32 × (Nat → Int32) × Int32 × Int32 := (q_54.1, v_inL, v_givL, q_54.2)
def cF_StepMachine_input_2 (rec_ : Int32 → (Nat → Int32) → Int32 → (Int32 × (Nat → Int32) × Int32 × Int32)) (k_i : Int32) (q_43 : (Nat → Int32) × Int32) : Int32 × (Nat → Int32) × Int32 × Int32 := (rec_ (k_i + 1) q_43.1 q_43.2)
def cF_StepMachine_input_L27 (v_ct : Int32) (x0 : Int32) (x1 : Int64) : Nat → Int32 → (Nat → Int32) → Int32 → Int32 × (Nat → Int32) × Int32 × Int32
  | 0, _, _, _ => (0, fun _ => 0, 0, 0)
  | n + 1, k_i, v_inL, v_givL => (if x0 ≤ k_i then (cF_StepMachine_input_1 v_inL v_givL (cF_StepMachine_forgetIf v_ct 1)) else (cF_StepMachine_input_2 (cF_StepMachine_input_L27 v_ct x0 x1 n) k_i (cF_Ports_give v_givL v_inL (cF_StepMachine_byteOf x1 k_i))))
def cF_StepMachine_input (v_giv : Int32) (v_in : Nat → Int32) (v_ct : Int32) (x0 : Int32) (x1 : Int64) : Int32 × (Nat → Int32) × Int32 × Int32 := (if x0 < 1 then (0, v_in, v_giv, v_ct) else (if 8 < x0 then (0, v_in, v_giv, v_ct) else (if (cF_Ports_hasRoomIn v_giv x0) = 0 then (0, v_in, v_giv, v_ct) else (cF_StepMachine_input_L27 v_ct x0 x1 (x0.toNatClampNeg + 1) 0 v_in v_giv))))
set_option maxHeartbeats 4000000 in
set_option maxRecDepth 100000 in
theorem cc_StepMachine_input (l : Launch) (D : va_G) (tc : Nat → ClassId) (tb : Nat → Nat) (z0 : Nat) (sz : Nat) (a_x a_p a_pi a_t a_m a_g a_h a_c a_po a_tr : Nat) (v_giv : Int32) (v_tak : Int32) (v_put : Int32) (v_in : Nat → Int32) (v_nx : Int32) (v_ct : Int32) (x0 : Int32) (x1 : Int64) (hp0 : 0 ≤ v_giv.toInt ∧ v_giv.toInt ≤ 1000) : Met l y_X_input (wM y_X_input b_X_input 5 (some .boolean)) ({ frames := 2, cells := 0, slots := 0, locals := 42 }) (va_Pc [.ref a_x, .int x0, .long x1] (Pw D tc tb z0 [(a_x, .inr (8, [.ref a_m, .ref a_g, .ref a_h, .ref a_p, .ref a_t, .ref a_c])), (a_p, .inr (3, [.ref a_pi, .ref a_po, .int v_giv, .int v_tak, .int v_put])), (a_pi, .inl (tc 1, 1000, .inl v_in)), (a_t, .inr (6, [.ref a_tr, .int v_nx, .int v_ct]))] sz)) (va_Qi (fun (r : Int32) (u : (Nat → Int32) × Int32 × Int32) => (r, u) = (cF_StepMachine_input v_giv v_in v_ct x0 x1)) (Bw D tc (va_A [(a_x, .inr (8, [.ref a_m, .ref a_g, .ref a_h, .ref a_p, .ref a_t, .ref a_c])), (a_p, .inr (3, [.ref a_pi, .ref a_po, .int v_giv, .int v_tak, .int v_put])), (a_pi, .inl (tc 1, 1000, .inl v_in)), (a_t, .inr (6, [.ref a_tr, .int v_nx, .int v_ct]))] sz) (fun u => [(a_x, .inr (8, [.ref a_m, .ref a_g, .ref a_h, .ref a_p, .ref a_t, .ref a_c])), (a_p, .inr (3, [.ref a_pi, .ref a_po, .int u.2.1, .int v_tak, .int v_put])), (a_pi, .inl (tc 1, 1000, .inl u.1)), (a_t, .inr (6, [.ref a_tr, .int v_nx, .int u.2.2]))])) (va_A [(a_x, .inr (8, [.ref a_m, .ref a_g, .ref a_h, .ref a_p, .ref a_t, .ref a_c])), (a_p, .inr (3, [.ref a_pi, .ref a_po, .int v_giv, .int v_tak, .int v_put])), (a_pi, .inl (tc 1, 1000, .inl v_in)), (a_t, .inr (6, [.ref a_tr, .int v_nx, .int v_ct]))] sz)) 0 0 (va_A [(a_x, .inr (8, [.ref a_m, .ref a_g, .ref a_h, .ref a_p, .ref a_t, .ref a_c])), (a_p, .inr (3, [.ref a_pi, .ref a_po, .int v_giv, .int v_tak, .int v_put])), (a_pi, .inl (tc 1, 1000, .inl v_in)), (a_t, .inr (6, [.ref a_tr, .int v_nx, .int v_ct]))] sz) := by
  refine Met.ofW (cc := b_X_input) (maxL := 5) (ret := (some .boolean)) (by decide) rfl ?_
  intro p e s m args below meth c s₁ B hml hv
  obtain ⟨rfl, hsz, hP, hK, hB, hD0, hZ0⟩ := hv
  have hx := B.exec
  have hb := B.bytes
  have hr := B.returns
  have hts : ∀ w ∈ wALL, w.before _ s = true := fun w h => atoms_spec (ws := (wM y_X_input b_X_input 5 (some .boolean))) B.pre w (List.mem_cons_of_mem _ h)
  have hown : s.vm.findClass "StepMachine" = some m.cls := findClass_of_methodNamed B.named
  have hlocks := B.notSynchronized
  subst hsz
  have hD := hD0.self (sz := s.heap.size)
  generalize hAe : va_A [(a_x, .inr (8, [.ref a_m, .ref a_g, .ref a_h, .ref a_p, .ref a_t, .ref a_c])), (a_p, .inr (3, [.ref a_pi, .ref a_po, .int v_giv, .int v_tak, .int v_put])), (a_pi, .inl (tc 1, 1000, .inl v_in)), (a_t, .inr (6, [.ref a_tr, .int v_nx, .int v_ct]))] s.heap.size = A at hD ⊢
  have hZ : ∀ q : Nat, A q → z0 ≤ q := by rw [← hAe]; exact hZ0
  have hA : ∀ q : Nat, s.heap.size ≤ q → A q := fun q h => by rw [← hAe]; exact Or.inr h
  have hS : va_S A s.heap s.heap [] := va_S.rf
  have hl := lv_entry ([.ref a_x, .int x0, .long x1]) (n := 5) (Nat.le_of_ble_eq_true rfl)
  rw [lg_entry_eq]
  generalize (lg_sl ([.ref a_x, .int x0, .long x1]) ++ List.replicate (5 - (lg_sl ([.ref a_x, .int x0, .long x1])).length) Slot.unset).toArray = ls at hl ⊢
  have hl : lv_has ls 5 [(0, .ref a_x), (1, .int x0), (2, .long x1)] := hl
  refine lv_iload_n hx hb d_X_input_0 rfl (lv_at hl 1 rfl) ?_
  refine lv_iconst (v := 1) hx hb d_X_input_1 (by decide) ?_
  refine lv_icmp_lt (tgt := 22) hx hb d_X_input_2 (by decide) (fun c_2 => ?_) (fun c_2 => ?_)
  · skip
    refine lv_iconst (v := 0) hx hb d_X_input_22 (by decide) ?_
    exact W.zret (v := 0) hx hb hr rfl (fun t ht hW => ⟨⟨_, (v_in, v_giv, v_ct), rfl, by rw [cF_StepMachine_input, if_pos c_2], by rw [ht]; exact hP, va_K.moved hW.alike hK, hD⟩, hS.F ht⟩) hS.2.2 d_X_input_23
  · skip
    refine lv_iload_n hx hb d_X_input_5 rfl (lv_at hl 1 rfl) ?_
    refine lv_bipush (v := 8) hx hb d_X_input_6 (by decide) ?_
    refine lv_icmp_gt (tgt := 22) hx hb d_X_input_8 (by decide) (fun c_8 => ?_) (fun c_8 => ?_)
    · skip
      refine lv_iconst (v := 0) hx hb d_X_input_22 (by decide) ?_
      exact W.zret (v := 0) hx hb hr rfl (fun t ht hW => ⟨⟨_, (v_in, v_giv, v_ct), rfl, by rw [cF_StepMachine_input, if_neg c_2, if_pos c_8], by rw [ht]; exact hP, va_K.moved hW.alike hK, hD⟩, hS.F ht⟩) hS.2.2 d_X_input_23
    · skip
      refine lv_aload_n hx hb d_X_input_11 rfl (lv_at hl 0 rfl) ?_
      refine va_get (D := D) (ci := 8) (v := .ref a_p) (C := "StepMachine") (T := TX8) (N := 6) hx hb hts inU_8 hown hK hP 0 rfl rfl 3 (by decide) (hts _ a_183) (fun _ h9 => h9) rfl d_X_input_12 ?_
      refine lv_iload_n hx hb d_X_input_15 rfl (lv_at hl 1 rfl) ?_
      refine roVi (As := [.int x0]) (rest := []) ⟨hx, hb, hml, hown, hts⟩ (cc_Ports_hasRoomIn l D tc tb z0 a_p a_pi a_po v_giv v_tak v_put x0) (cwV 1 hts (goodV a_290 a_291 a_292 a_5 a_293) rfl rfl rfl hv_Port_hasRoomIn ⟨Nat.le_of_ble_eq_true rfl, Nat.le_of_ble_eq_true rfl⟩) (hP.sub [1] rfl) hK (hB.kept hS hZ) rfl rfl rfl hl.1 rfl (Nat.le_of_ble_eq_true rfl) d_X_input_16 ⟨Nat.zero_le _, Nat.zero_le _⟩ ?_
      refine lv_if_ne (tgt := 24) hx hb d_X_input_19 (by decide) (fun c_19 => ?_) (fun c_19 => ?_)
      · skip
        refine lv_iconst (v := 0) hx hb d_X_input_24 (by decide) ?_
        refine lv_istore (lv' := [(4, .int 0), (0, .ref a_x), (1, .int x0), (2, .long x1)]) hx hb d_X_input_25 hl (by decide) rfl (fun ls hl => ?_)
        have loop : ∀ (n i : Nat) (v_inL : Nat → Int32) (v_givL : Int32) (H : Heap) (locs : List Loc) (ls : Array Slot), i ≤ x0.toNatClampNeg → x0.toNatClampNeg + 1 ≤ i + n → cF_StepMachine_input_L27 v_ct x0 x1 n (nI i) v_inL v_givL = (cF_StepMachine_input v_giv v_in v_ct x0 x1) → (0 ≤ v_givL.toInt ∧ v_givL.toInt ≤ 1000) → va_P D vwCl [(a_x, .inr (8, [.ref a_m, .ref a_g, .ref a_h, .ref a_p, .ref a_t, .ref a_c])), (a_p, .inr (3, [.ref a_pi, .ref a_po, .int v_givL, .int v_tak, .int v_put])), (a_pi, .inl (tc 1, 1000, .inl v_inL)), (a_t, .inr (6, [.ref a_tr, .int v_nx, .int v_ct]))] H → va_D A [(a_x, .inr (8, [.ref a_m, .ref a_g, .ref a_h, .ref a_p, .ref a_t, .ref a_c])), (a_p, .inr (3, [.ref a_pi, .ref a_po, .int v_givL, .int v_tak, .int v_put])), (a_pi, .inl (tc 1, 1000, .inl v_inL)), (a_t, .inr (6, [.ref a_tr, .int v_nx, .int v_ct]))] → va_S A s.heap H locs → lv_has ls 5 [(4, .int (nI i)), (0, .ref a_x), (1, .int x0), (2, .long x1)] → W p l e (headSpec (wM y_X_input b_X_input 5 (some .boolean)) ({ frames := 2, cells := 0, slots := 0, locals := 42 })).room s m ([.ref a_x, .int x0, .long x1]).toArray below meth c H locs 0 0 (MQ below (va_Qi (fun (r : Int32) (u : (Nat → Int32) × Int32 × Int32) => (r, u) = (cF_StepMachine_input v_giv v_in v_ct x0 x1)) (Bw D tc A (fun u => [(a_x, .inr (8, [.ref a_m, .ref a_g, .ref a_h, .ref a_p, .ref a_t, .ref a_c])), (a_p, .inr (3, [.ref a_pi, .ref a_po, .int u.2.1, .int v_tak, .int v_put])), (a_pi, .inl (tc 1, 1000, .inl u.1)), (a_t, .inr (6, [.ref a_tr, .int v_nx, .int u.2.2]))])) A) ([.ref a_x, .int x0, .long x1]).toArray s 0 0 A) (F0 m 27 ls []) := by
          intro n
          induction n with
          | zero =>
            intro i v_inL v_givL H locs ls h1 h2
            exact absurd h2 (by omega)
          | succ n ih =>
            intro i v_inL v_givL H locs ls hi hn hF hp0 hP hD hS hl
            refine lv_iload hx hb d_X_input_27 (lv_at hl 0 rfl) ?_
            refine lv_iload_n hx hb d_X_input_29 rfl (lv_at hl 2 rfl) ?_
            refine lv_icmp_ge (tgt := 52) hx hb d_X_input_30 (by decide) (fun c_30 => ?_) (fun c_30 => ?_)
            · skip
              refine lv_aload_n hx hb d_X_input_52 rfl (lv_at hl 1 rfl) ?_
              refine lv_iconst (v := 1) hx hb d_X_input_53 (by decide) ?_
              obtain ⟨q_54, e_54⟩ : ∃ z, z = (cF_StepMachine_forgetIf v_ct 1) := ⟨_, rfl⟩
              refine wVi (As := [.int 1]) (rest := []) e_54 ⟨hx, hb, hml, hown, hts⟩ (cc_StepMachine_forgetIf l D tc tb z0 _ a_x a_t a_m a_g a_h a_p a_c a_tr v_nx v_ct 1 (Or.inr rfl)) (cwV 1 hts (goodV a_201 a_202 a_894 a_1 a_203) rfl rfl rfl hv_X_forgetIf ⟨Nat.le_of_ble_eq_true rfl, Nat.le_of_ble_eq_true rfl⟩) hP hD hS hA hZ hK hB [0, 3] rfl (by decide) (fun _ => rfl) rfl rfl rfl hl.1 rfl (Nat.le_of_ble_eq_true rfl) d_X_input_54 ⟨Nat.zero_le _, Nat.zero_le _⟩ (fun H locs hP hD hS => ?_)
              have hP : va_P D vwCl [(a_x, .inr (8, [.ref a_m, .ref a_g, .ref a_h, .ref a_p, .ref a_t, .ref a_c])), (a_p, .inr (3, [.ref a_pi, .ref a_po, .int v_givL, .int v_tak, .int v_put])), (a_pi, .inl (tc 1, 1000, .inl v_inL)), (a_t, .inr (6, [.ref a_tr, .int v_nx, .int q_54.2]))] H := hP
              have hD : va_D A [(a_x, .inr (8, [.ref a_m, .ref a_g, .ref a_h, .ref a_p, .ref a_t, .ref a_c])), (a_p, .inr (3, [.ref a_pi, .ref a_po, .int v_givL, .int v_tak, .int v_put])), (a_pi, .inl (tc 1, 1000, .inl v_inL)), (a_t, .inr (6, [.ref a_tr, .int v_nx, .int q_54.2]))] := hD
              exact W.zret (v := q_54.1) hx hb hr (zb_of (by rw [e_54]; exact zb_forgetIf (Or.inr rfl))) (fun t ht hW => ⟨⟨_, (v_inL, v_givL, q_54.2), rfl, by rw [← hF, cF_StepMachine_input_L27, if_pos c_30, ← e_54, cF_StepMachine_input_1], by rw [ht]; exact hP, va_K.moved hW.alike hK, hD⟩, hS.F ht⟩) hS.2.2 d_X_input_57
            · skip
              refine lv_aload_n hx hb d_X_input_33 rfl (lv_at hl 1 rfl) ?_
              refine va_get (D := D) (ci := 8) (v := .ref a_p) (C := "StepMachine") (T := TX8) (N := 6) hx hb hts inU_8 hown hK hP 0 rfl rfl 3 (by decide) (hts _ a_183) (fun _ h9 => h9) rfl d_X_input_34 ?_
              refine lv_lload_n hx hb d_X_input_37 rfl (lv_at hl 3 rfl) ?_
              refine lv_iload hx hb d_X_input_38 (lv_at hl 0 rfl) ?_
              refine roSi (As := [.long x1, .int (nI i)]) (rest := [.ref a_p]) ⟨hx, hb, hml, hown, hts⟩ (cc_StepMachine_byteOf l D tc tb z0 x1 (nI i)) (va_cwS 2 hts (goodS a_228 a_229 a_1 a_230) rfl rfl rfl hs_X_byteOf ⟨Nat.le_of_ble_eq_true rfl, Nat.le_of_ble_eq_true rfl⟩) (hP.sub [] rfl) hK (hB.kept hS hZ) rfl hl.1 rfl (Nat.le_of_ble_eq_true rfl) d_X_input_40 ⟨Nat.zero_le _, Nat.zero_le _⟩ ?_
              obtain ⟨q_43, e_43⟩ : ∃ z, z = (cF_Ports_give v_givL v_inL (cF_StepMachine_byteOf x1 (nI i))) := ⟨_, rfl⟩
              refine wVv (As := [.int (cF_StepMachine_byteOf x1 (nI i))]) (rest := []) e_43 ⟨hx, hb, hml, hown, hts⟩ (cc_Ports_give l D tc tb z0 _ a_p a_pi a_po v_givL v_tak v_put v_inL (cF_StepMachine_byteOf x1 (nI i)) hp0) (cwV 1 hts (goodV a_294 a_295 a_296 a_5 a_297) rfl rfl rfl hv_Port_give ⟨Nat.le_of_ble_eq_true rfl, Nat.le_of_ble_eq_true rfl⟩) hP hD hS hA hZ hK hB [1, 2] rfl (by decide) (fun _ => rfl) rfl rfl rfl hl.1 rfl (Nat.le_of_ble_eq_true rfl) d_X_input_43 ⟨Nat.zero_le _, Nat.zero_le _⟩ (fun H locs hP hD hS => ?_)
              have hP : va_P D vwCl [(a_x, .inr (8, [.ref a_m, .ref a_g, .ref a_h, .ref a_p, .ref a_t, .ref a_c])), (a_p, .inr (3, [.ref a_pi, .ref a_po, .int q_43.2, .int v_tak, .int v_put])), (a_pi, .inl (tc 1, 1000, .inl q_43.1)), (a_t, .inr (6, [.ref a_tr, .int v_nx, .int v_ct]))] H := hP
              have hD : va_D A [(a_x, .inr (8, [.ref a_m, .ref a_g, .ref a_h, .ref a_p, .ref a_t, .ref a_c])), (a_p, .inr (3, [.ref a_pi, .ref a_po, .int q_43.2, .int v_tak, .int v_put])), (a_pi, .inl (tc 1, 1000, .inl q_43.1)), (a_t, .inr (6, [.ref a_tr, .int v_nx, .int v_ct]))] := hD
              refine lv_iinc (v := ((nI i) + 1)) (lv' := [(4, .int ((nI i) + 1)), (0, .ref a_x), (1, .int x0), (2, .long x1)]) hx hb d_X_input_46 hl (k := 0) rfl rfl (by decide) rfl (fun ls hl => ?_)
              refine lv_goto (tgt := 27) hx hb d_X_input_49 (by decide) ?_
              exact ih (i + 1) q_43.1 q_43.2 _ _ ls (lp_lt c_30 hi) (by omega) (by rw [← hF, cF_StepMachine_input_L27, if_neg c_30, ← e_43, cF_StepMachine_input_2, nI_1]) (by rw [e_43]; exact give_rng hp0) hP hD hS (by have h := lv_sub hl (l' := [(4, .int ((nI i) + 1)), (0, .ref a_x), (1, .int x0), (2, .long x1)]) [0, 1, 2, 3] rfl; rw [nI_1] at h; exact h)
        exact loop (x0.toNatClampNeg + 1) 0 v_in v_giv _ _ ls (Nat.zero_le _) (by omega) (by rw [cF_StepMachine_input, if_neg c_2, if_neg c_8, if_neg c_19, nI_0]) hp0 hP hD hS (by rw [nI_0]; exact lv_sub hl [0, 1, 2, 3] rfl)
      · skip
        refine lv_iconst (v := 0) hx hb d_X_input_22 (by decide) ?_
        exact W.zret (v := 0) hx hb hr rfl (fun t ht hW => ⟨⟨_, (v_in, v_giv, v_ct), rfl, by rw [cF_StepMachine_input, if_neg c_2, if_neg c_8, if_pos c_19], by rw [ht]; exact hP, va_K.moved hW.alike hK, hD⟩, hS.F ht⟩) hS.2.2 d_X_input_23
def cF_StepMachine_halt_2 (q_21 : Int32 × (Nat → Int32) × Int32) (q_24 : Int32 × Int32) : Int32 × (Nat → Int32) × Int32 × Int32 := (q_24.1, q_21.2.1, q_21.2.2, q_24.2)
def cF_StepMachine_halt_1 (v_ct : Int32) (q_21 : Int32 × (Nat → Int32) × Int32) : Int32 × (Nat → Int32) × Int32 × Int32 := (cF_StepMachine_halt_2 q_21 (cF_StepMachine_forgetIf v_ct q_21.1))
def cF_StepMachine_halt_4 (q_10 : Int32 × (Nat → Int32) × Int32) (q_24 : Int32 × Int32) : Int32 × (Nat → Int32) × Int32 × Int32 := (q_24.1, q_10.2.1, q_10.2.2, q_24.2)
def cF_StepMachine_halt_3 (v_ct : Int32) (q_10 : Int32 × (Nat → Int32) × Int32) : Int32 × (Nat → Int32) × Int32 × Int32 := (cF_StepMachine_halt_4 q_10 (cF_StepMachine_forgetIf v_ct q_10.1))
def cF_StepMachine_halt (v_hc : Int32) (v_hp : Nat → Int32) (v_ct : Int32) (x0 : Int32) (x1 : Int32) : Int32 × (Nat → Int32) × Int32 × Int32 := (if x1 = 0 then (cF_StepMachine_halt_1 v_ct (cF_Halts_remove v_hc v_hp x0)) else (cF_StepMachine_halt_3 v_ct (cF_Halts_add v_hc v_hp x0)))
set_option maxHeartbeats 4000000 in
set_option maxRecDepth 100000 in
theorem cc_StepMachine_halt (l : Launch) (D : va_G) (tc : Nat → ClassId) (tb : Nat → Nat) (z0 : Nat) (sz : Nat) (a_x a_h a_hp a_t a_m a_g a_p a_c a_tr : Nat) (v_hc : Int32) (v_hp : Nat → Int32) (v_nx : Int32) (v_ct : Int32) (x0 : Int32) (x1 : Int32) (hc0 : 0 ≤ v_hc.toInt ∧ v_hc.toInt ≤ 8) : Met l y_X_halt (wM y_X_halt b_X_halt 3 (some .boolean)) ({ frames := 3, cells := 0, slots := 0, locals := 64 }) (va_Pc [.ref a_x, .int x0, .int x1] (Pw D tc tb z0 [(a_x, .inr (8, [.ref a_m, .ref a_g, .ref a_h, .ref a_p, .ref a_t, .ref a_c])), (a_h, .inr (2, [.ref a_hp, .int v_hc])), (a_hp, .inl (tc 0, 8, .inl v_hp)), (a_t, .inr (6, [.ref a_tr, .int v_nx, .int v_ct]))] sz)) (va_Qi (fun (r : Int32) (u : (Nat → Int32) × Int32 × Int32) => (r, u) = (cF_StepMachine_halt v_hc v_hp v_ct x0 x1)) (Bw D tc (va_A [(a_x, .inr (8, [.ref a_m, .ref a_g, .ref a_h, .ref a_p, .ref a_t, .ref a_c])), (a_h, .inr (2, [.ref a_hp, .int v_hc])), (a_hp, .inl (tc 0, 8, .inl v_hp)), (a_t, .inr (6, [.ref a_tr, .int v_nx, .int v_ct]))] sz) (fun u => [(a_x, .inr (8, [.ref a_m, .ref a_g, .ref a_h, .ref a_p, .ref a_t, .ref a_c])), (a_h, .inr (2, [.ref a_hp, .int u.2.1])), (a_hp, .inl (tc 0, 8, .inl u.1)), (a_t, .inr (6, [.ref a_tr, .int v_nx, .int u.2.2]))])) (va_A [(a_x, .inr (8, [.ref a_m, .ref a_g, .ref a_h, .ref a_p, .ref a_t, .ref a_c])), (a_h, .inr (2, [.ref a_hp, .int v_hc])), (a_hp, .inl (tc 0, 8, .inl v_hp)), (a_t, .inr (6, [.ref a_tr, .int v_nx, .int v_ct]))] sz)) 0 0 (va_A [(a_x, .inr (8, [.ref a_m, .ref a_g, .ref a_h, .ref a_p, .ref a_t, .ref a_c])), (a_h, .inr (2, [.ref a_hp, .int v_hc])), (a_hp, .inl (tc 0, 8, .inl v_hp)), (a_t, .inr (6, [.ref a_tr, .int v_nx, .int v_ct]))] sz) := by
  refine Met.ofW (cc := b_X_halt) (maxL := 3) (ret := (some .boolean)) (by decide) rfl ?_
  intro p e s m args below meth c s₁ B hml hv
  obtain ⟨rfl, hsz, hP, hK, hB, hD0, hZ0⟩ := hv
  have hx := B.exec
  have hb := B.bytes
  have hr := B.returns
  have hts : ∀ w ∈ wALL, w.before _ s = true := fun w h => atoms_spec (ws := (wM y_X_halt b_X_halt 3 (some .boolean))) B.pre w (List.mem_cons_of_mem _ h)
  have hown : s.vm.findClass "StepMachine" = some m.cls := findClass_of_methodNamed B.named
  have hlocks := B.notSynchronized
  subst hsz
  have hD := hD0.self (sz := s.heap.size)
  generalize hAe : va_A [(a_x, .inr (8, [.ref a_m, .ref a_g, .ref a_h, .ref a_p, .ref a_t, .ref a_c])), (a_h, .inr (2, [.ref a_hp, .int v_hc])), (a_hp, .inl (tc 0, 8, .inl v_hp)), (a_t, .inr (6, [.ref a_tr, .int v_nx, .int v_ct]))] s.heap.size = A at hD ⊢
  have hZ : ∀ q : Nat, A q → z0 ≤ q := by rw [← hAe]; exact hZ0
  have hA : ∀ q : Nat, s.heap.size ≤ q → A q := fun q h => by rw [← hAe]; exact Or.inr h
  have hS : va_S A s.heap s.heap [] := va_S.rf
  have hl := lv_entry ([.ref a_x, .int x0, .int x1]) (n := 3) (Nat.le_of_ble_eq_true rfl)
  rw [lg_entry_eq]
  generalize (lg_sl ([.ref a_x, .int x0, .int x1]) ++ List.replicate (3 - (lg_sl ([.ref a_x, .int x0, .int x1])).length) Slot.unset).toArray = ls at hl ⊢
  have hl : lv_has ls 3 [(0, .ref a_x), (1, .int x0), (2, .int x1)] := hl
  refine lv_aload_n hx hb d_X_halt_0 rfl (lv_at hl 0 rfl) ?_
  refine lv_iload_n hx hb d_X_halt_1 rfl (lv_at hl 2 rfl) ?_
  refine lv_if_eq (tgt := 16) hx hb d_X_halt_2 (by decide) (fun c_2 => ?_) (fun c_2 => ?_)
  · skip
    refine lv_aload_n hx hb d_X_halt_16 rfl (lv_at hl 0 rfl) ?_
    refine va_get (D := D) (ci := 8) (v := .ref a_h) (C := "StepMachine") (T := TX8) (N := 6) hx hb hts inU_8 hown hK hP 0 rfl rfl 2 (by decide) (hts _ a_182) (fun _ h9 => h9) rfl d_X_halt_17 ?_
    refine lv_iload_n hx hb d_X_halt_20 rfl (lv_at hl 1 rfl) ?_
    obtain ⟨q_21, e_21⟩ : ∃ z, z = (cF_Halts_remove v_hc v_hp x0) := ⟨_, rfl⟩
    refine wVi (As := [.int x0]) (rest := [.ref a_x]) e_21 ⟨hx, hb, hml, hown, hts⟩ (cc_Halts_remove l D tc tb z0 _ a_h a_hp v_hc v_hp x0 hc0) (cwV 1 hts (goodV a_314 a_315 a_316 a_4 a_317) rfl rfl rfl hv_Halt_remove ⟨Nat.le_of_ble_eq_true rfl, Nat.le_of_ble_eq_true rfl⟩) hP hD hS hA hZ hK hB [1, 2] rfl (by decide) (fun _ => rfl) rfl rfl rfl hl.1 rfl (Nat.le_of_ble_eq_true rfl) d_X_halt_21 ⟨Nat.zero_le _, Nat.zero_le _⟩ (fun H locs hP hD hS => ?_)
    have hP : va_P D vwCl [(a_x, .inr (8, [.ref a_m, .ref a_g, .ref a_h, .ref a_p, .ref a_t, .ref a_c])), (a_h, .inr (2, [.ref a_hp, .int q_21.2.2])), (a_hp, .inl (tc 0, 8, .inl q_21.2.1)), (a_t, .inr (6, [.ref a_tr, .int v_nx, .int v_ct]))] H := hP
    have hD : va_D A [(a_x, .inr (8, [.ref a_m, .ref a_g, .ref a_h, .ref a_p, .ref a_t, .ref a_c])), (a_h, .inr (2, [.ref a_hp, .int q_21.2.2])), (a_hp, .inl (tc 0, 8, .inl q_21.2.1)), (a_t, .inr (6, [.ref a_tr, .int v_nx, .int v_ct]))] := hD
    obtain ⟨q_24, e_24⟩ : ∃ z, z = (cF_StepMachine_forgetIf v_ct q_21.1) := ⟨_, rfl⟩
    refine wVi (As := [.int q_21.1]) (rest := []) e_24 ⟨hx, hb, hml, hown, hts⟩ (cc_StepMachine_forgetIf l D tc tb z0 _ a_x a_t a_m a_g a_h a_p a_c a_tr v_nx v_ct q_21.1 (by first | (rw [e_10]; exact zb_add _ _ _) | (rw [e_21]; exact zb_remove _ _ _))) (cwV 1 hts (goodV a_201 a_202 a_894 a_1 a_203) rfl rfl rfl hv_X_forgetIf ⟨Nat.le_of_ble_eq_true rfl, Nat.le_of_ble_eq_true rfl⟩) hP hD hS hA hZ hK hB [0, 3] rfl (by decide) (fun _ => rfl) rfl rfl rfl hl.1 rfl (Nat.le_of_ble_eq_true rfl) d_X_halt_24 ⟨Nat.zero_le _, Nat.zero_le _⟩ (fun H locs hP hD hS => ?_)
    have hP : va_P D vwCl [(a_x, .inr (8, [.ref a_m, .ref a_g, .ref a_h, .ref a_p, .ref a_t, .ref a_c])), (a_h, .inr (2, [.ref a_hp, .int q_21.2.2])), (a_hp, .inl (tc 0, 8, .inl q_21.2.1)), (a_t, .inr (6, [.ref a_tr, .int v_nx, .int q_24.2]))] H := hP
    have hD : va_D A [(a_x, .inr (8, [.ref a_m, .ref a_g, .ref a_h, .ref a_p, .ref a_t, .ref a_c])), (a_h, .inr (2, [.ref a_hp, .int q_21.2.2])), (a_hp, .inl (tc 0, 8, .inl q_21.2.1)), (a_t, .inr (6, [.ref a_tr, .int v_nx, .int q_24.2]))] := hD
    exact W.zret (v := q_24.1) hx hb hr (zb_of (by rw [e_24]; exact zb_forgetIf (by first | (rw [e_10]; exact zb_add _ _ _) | (rw [e_21]; exact zb_remove _ _ _)))) (fun t ht hW => ⟨⟨_, (q_21.2.1, q_21.2.2, q_24.2), rfl, by rw [cF_StepMachine_halt, if_pos c_2, ← e_21, cF_StepMachine_halt_1, ← e_24, cF_StepMachine_halt_2], by rw [ht]; exact hP, va_K.moved hW.alike hK, hD⟩, hS.F ht⟩) hS.2.2 d_X_halt_27
  · skip
    refine lv_aload_n hx hb d_X_halt_5 rfl (lv_at hl 0 rfl) ?_
    refine va_get (D := D) (ci := 8) (v := .ref a_h) (C := "StepMachine") (T := TX8) (N := 6) hx hb hts inU_8 hown hK hP 0 rfl rfl 2 (by decide) (hts _ a_182) (fun _ h9 => h9) rfl d_X_halt_6 ?_
    refine lv_iload_n hx hb d_X_halt_9 rfl (lv_at hl 1 rfl) ?_
    obtain ⟨q_10, e_10⟩ : ∃ z, z = (cF_Halts_add v_hc v_hp x0) := ⟨_, rfl⟩
    refine wVi (As := [.int x0]) (rest := [.ref a_x]) e_10 ⟨hx, hb, hml, hown, hts⟩ (cc_Halts_add l D tc tb z0 _ a_h a_hp v_hc v_hp x0 hc0) (cwV 1 hts (goodV a_303 a_304 a_305 a_4 a_306) rfl rfl rfl hv_Halt_add ⟨Nat.le_of_ble_eq_true rfl, Nat.le_of_ble_eq_true rfl⟩) hP hD hS hA hZ hK hB [1, 2] rfl (by decide) (fun _ => rfl) rfl rfl rfl hl.1 rfl (Nat.le_of_ble_eq_true rfl) d_X_halt_10 ⟨Nat.zero_le _, Nat.zero_le _⟩ (fun H locs hP hD hS => ?_)
    have hP : va_P D vwCl [(a_x, .inr (8, [.ref a_m, .ref a_g, .ref a_h, .ref a_p, .ref a_t, .ref a_c])), (a_h, .inr (2, [.ref a_hp, .int q_10.2.2])), (a_hp, .inl (tc 0, 8, .inl q_10.2.1)), (a_t, .inr (6, [.ref a_tr, .int v_nx, .int v_ct]))] H := hP
    have hD : va_D A [(a_x, .inr (8, [.ref a_m, .ref a_g, .ref a_h, .ref a_p, .ref a_t, .ref a_c])), (a_h, .inr (2, [.ref a_hp, .int q_10.2.2])), (a_hp, .inl (tc 0, 8, .inl q_10.2.1)), (a_t, .inr (6, [.ref a_tr, .int v_nx, .int v_ct]))] := hD
    refine lv_goto (tgt := 24) hx hb d_X_halt_13 (by decide) ?_
    obtain ⟨q_24, e_24⟩ : ∃ z, z = (cF_StepMachine_forgetIf v_ct q_10.1) := ⟨_, rfl⟩
    refine wVi (As := [.int q_10.1]) (rest := []) e_24 ⟨hx, hb, hml, hown, hts⟩ (cc_StepMachine_forgetIf l D tc tb z0 _ a_x a_t a_m a_g a_h a_p a_c a_tr v_nx v_ct q_10.1 (by first | (rw [e_10]; exact zb_add _ _ _) | (rw [e_21]; exact zb_remove _ _ _))) (cwV 1 hts (goodV a_201 a_202 a_894 a_1 a_203) rfl rfl rfl hv_X_forgetIf ⟨Nat.le_of_ble_eq_true rfl, Nat.le_of_ble_eq_true rfl⟩) hP hD hS hA hZ hK hB [0, 3] rfl (by decide) (fun _ => rfl) rfl rfl rfl hl.1 rfl (Nat.le_of_ble_eq_true rfl) d_X_halt_24 ⟨Nat.zero_le _, Nat.zero_le _⟩ (fun H locs hP hD hS => ?_)
    have hP : va_P D vwCl [(a_x, .inr (8, [.ref a_m, .ref a_g, .ref a_h, .ref a_p, .ref a_t, .ref a_c])), (a_h, .inr (2, [.ref a_hp, .int q_10.2.2])), (a_hp, .inl (tc 0, 8, .inl q_10.2.1)), (a_t, .inr (6, [.ref a_tr, .int v_nx, .int q_24.2]))] H := hP
    have hD : va_D A [(a_x, .inr (8, [.ref a_m, .ref a_g, .ref a_h, .ref a_p, .ref a_t, .ref a_c])), (a_h, .inr (2, [.ref a_hp, .int q_10.2.2])), (a_hp, .inl (tc 0, 8, .inl q_10.2.1)), (a_t, .inr (6, [.ref a_tr, .int v_nx, .int q_24.2]))] := hD
    exact W.zret (v := q_24.1) hx hb hr (zb_of (by rw [e_24]; exact zb_forgetIf (by first | (rw [e_10]; exact zb_add _ _ _) | (rw [e_21]; exact zb_remove _ _ _)))) (fun t ht hW => ⟨⟨_, (q_10.2.1, q_10.2.2, q_24.2), rfl, by rw [cF_StepMachine_halt, if_neg c_2, ← e_10, cF_StepMachine_halt_3, ← e_24, cF_StepMachine_halt_4], by rw [ht]; exact hP, va_K.moved hW.alike hK, hD⟩, hS.F ht⟩) hS.2.2 d_X_halt_27
def cF_StepMachine_state (v_st : Int32) (v_cu : Int32) (v_va : Int32) (v_sp : Int32) (v_un : Int32) (v_giv : Int32) (v_tak : Int32) (v_put : Int32) (v_ct : Int32) (v_hc : Int32) (x0 : Int32) : Int32 := (if x0 = 0 then v_st else (if x0 = 1 then v_cu else (if x0 = 2 then v_va else (if x0 = 3 then v_sp else (if x0 = 4 then v_un else (if x0 = 5 then v_put else (if x0 = 6 then (v_giv - v_tak) else (if x0 = 7 then v_ct else (if x0 = 8 then v_hc else (-1))))))))))
set_option maxHeartbeats 4000000 in
set_option maxRecDepth 100000 in
theorem cc_StepMachine_state (l : Launch) (D : va_G) (tc : Nat → ClassId) (tb : Nat → Nat) (z0 : Nat) (a_x a_c a_p a_t a_h a_m a_g a_w a_r a_pi a_po a_tr a_hp : Nat) (v_pc : Int32) (v_st : Int32) (v_cu : Int32) (v_va : Int32) (v_sp : Int32) (v_un : Int32) (v_giv : Int32) (v_tak : Int32) (v_put : Int32) (v_nx : Int32) (v_ct : Int32) (v_hc : Int32) (x0 : Int32) : Met l y_X_state (wM y_X_state b_X_state 2 (some .int)) ({ frames := 0, cells := 0, slots := 0, locals := 0 }) (va_Pc [.ref a_x, .int x0] (Pr D tc tb z0 [(a_x, .inr (8, [.ref a_m, .ref a_g, .ref a_h, .ref a_p, .ref a_t, .ref a_c])), (a_c, .inr (7, [.ref a_m, .ref a_g, .ref a_p, .ref a_t, .ref a_w, .ref a_r, .int v_pc, .int v_st, .int v_cu, .int v_va, .int v_sp, .int v_un])), (a_p, .inr (3, [.ref a_pi, .ref a_po, .int v_giv, .int v_tak, .int v_put])), (a_t, .inr (6, [.ref a_tr, .int v_nx, .int v_ct])), (a_h, .inr (2, [.ref a_hp, .int v_hc]))])) (vp_Si (fun r => r = (cF_StepMachine_state v_st v_cu v_va v_sp v_un v_giv v_tak v_put v_ct v_hc x0))) 0 0 (fun _ => False) := by
  refine Met.ofW (cc := b_X_state) (maxL := 2) (ret := (some .int)) (by decide) rfl ?_
  intro p e s m args below meth c s₁ B hml hv
  obtain ⟨rfl, hP, hK, hB⟩ := hv
  have hx := B.exec
  have hb := B.bytes
  have hr := B.returns
  have hts : ∀ w ∈ wALL, w.before _ s = true := fun w h => atoms_spec (ws := (wM y_X_state b_X_state 2 (some .int))) B.pre w (List.mem_cons_of_mem _ h)
  have hown : s.vm.findClass "StepMachine" = some m.cls := findClass_of_methodNamed B.named
  have hlocks := B.notSynchronized
  have hl := lv_entry ([.ref a_x, .int x0]) (n := 2) (Nat.le_of_ble_eq_true rfl)
  rw [lg_entry_eq]
  generalize (lg_sl ([.ref a_x, .int x0]) ++ List.replicate (2 - (lg_sl ([.ref a_x, .int x0])).length) Slot.unset).toArray = ls at hl ⊢
  have hl : lv_has ls 2 [(0, .ref a_x), (1, .int x0)] := hl
  refine lv_iload_n hx hb d_X_state_0 rfl (lv_at hl 1 rfl) ?_
  by_cases c_1_0 : x0 = 0
  · skip
    refine lv_tableIn (tgt := 52) hx hb d_X_state_1 (by rw [c_1_0]; decide) (by rw [c_1_0]; decide) (by rw [c_1_0] <;> rfl) (by decide) ?_
    refine lv_aload_n hx hb d_X_state_52 rfl (lv_at hl 0 rfl) ?_
    refine va_get (D := D) (ci := 8) (v := .ref a_c) (C := "StepMachine") (T := TX8) (N := 6) hx hb hts inU_8 hown hK hP 0 rfl rfl 5 (by decide) (hts _ a_185) (fun _ h9 => h9) rfl d_X_state_53 ?_
    refine va_get (D := D) (ci := 7) (v := .int v_st) (C := "StepMachine$Core") (T := TX7) (N := 12) hx hb hts inU_7 hown hK hP 1 rfl rfl 7 (by decide) (hts _ a_159) (fun _ h9 => h9) rfl d_X_state_56 ?_
    exact W.iret (v := v_st) hx hb hr (fun t ht hW => ⟨_, rfl, by rw [cF_StepMachine_state, if_pos c_1_0], ht⟩) (fun q h => by cases h) d_X_state_59
  · skip
    by_cases c_1_1 : x0 = 1
    · skip
      refine lv_tableIn (tgt := 60) hx hb d_X_state_1 (by rw [c_1_1]; decide) (by rw [c_1_1]; decide) (by rw [c_1_1] <;> rfl) (by decide) ?_
      refine lv_aload_n hx hb d_X_state_60 rfl (lv_at hl 0 rfl) ?_
      refine va_get (D := D) (ci := 8) (v := .ref a_c) (C := "StepMachine") (T := TX8) (N := 6) hx hb hts inU_8 hown hK hP 0 rfl rfl 5 (by decide) (hts _ a_185) (fun _ h9 => h9) rfl d_X_state_61 ?_
      refine va_get (D := D) (ci := 7) (v := .int v_cu) (C := "StepMachine$Core") (T := TX7) (N := 12) hx hb hts inU_7 hown hK hP 1 rfl rfl 8 (by decide) (hts _ a_161) (fun _ h9 => h9) rfl d_X_state_64 ?_
      exact W.iret (v := v_cu) hx hb hr (fun t ht hW => ⟨_, rfl, by rw [cF_StepMachine_state, if_neg c_1_0, if_pos c_1_1], ht⟩) (fun q h => by cases h) d_X_state_67
    · skip
      by_cases c_1_2 : x0 = 2
      · skip
        refine lv_tableIn (tgt := 68) hx hb d_X_state_1 (by rw [c_1_2]; decide) (by rw [c_1_2]; decide) (by rw [c_1_2] <;> rfl) (by decide) ?_
        refine lv_aload_n hx hb d_X_state_68 rfl (lv_at hl 0 rfl) ?_
        refine va_get (D := D) (ci := 8) (v := .ref a_c) (C := "StepMachine") (T := TX8) (N := 6) hx hb hts inU_8 hown hK hP 0 rfl rfl 5 (by decide) (hts _ a_185) (fun _ h9 => h9) rfl d_X_state_69 ?_
        refine va_get (D := D) (ci := 7) (v := .int v_va) (C := "StepMachine$Core") (T := TX7) (N := 12) hx hb hts inU_7 hown hK hP 1 rfl rfl 9 (by decide) (hts _ a_163) (fun _ h9 => h9) rfl d_X_state_72 ?_
        exact W.iret (v := v_va) hx hb hr (fun t ht hW => ⟨_, rfl, by rw [cF_StepMachine_state, if_neg c_1_0, if_neg c_1_1, if_pos c_1_2], ht⟩) (fun q h => by cases h) d_X_state_75
      · skip
        by_cases c_1_3 : x0 = 3
        · skip
          refine lv_tableIn (tgt := 76) hx hb d_X_state_1 (by rw [c_1_3]; decide) (by rw [c_1_3]; decide) (by rw [c_1_3] <;> rfl) (by decide) ?_
          refine lv_aload_n hx hb d_X_state_76 rfl (lv_at hl 0 rfl) ?_
          refine va_get (D := D) (ci := 8) (v := .ref a_c) (C := "StepMachine") (T := TX8) (N := 6) hx hb hts inU_8 hown hK hP 0 rfl rfl 5 (by decide) (hts _ a_185) (fun _ h9 => h9) rfl d_X_state_77 ?_
          refine va_get (D := D) (ci := 7) (v := .int v_sp) (C := "StepMachine$Core") (T := TX7) (N := 12) hx hb hts inU_7 hown hK hP 1 rfl rfl 10 (by decide) (hts _ a_165) (fun _ h9 => h9) rfl d_X_state_80 ?_
          exact W.iret (v := v_sp) hx hb hr (fun t ht hW => ⟨_, rfl, by rw [cF_StepMachine_state, if_neg c_1_0, if_neg c_1_1, if_neg c_1_2, if_pos c_1_3], ht⟩) (fun q h => by cases h) d_X_state_83
        · skip
          by_cases c_1_4 : x0 = 4
          · skip
            refine lv_tableIn (tgt := 84) hx hb d_X_state_1 (by rw [c_1_4]; decide) (by rw [c_1_4]; decide) (by rw [c_1_4] <;> rfl) (by decide) ?_
            refine lv_aload_n hx hb d_X_state_84 rfl (lv_at hl 0 rfl) ?_
            refine va_get (D := D) (ci := 8) (v := .ref a_c) (C := "StepMachine") (T := TX8) (N := 6) hx hb hts inU_8 hown hK hP 0 rfl rfl 5 (by decide) (hts _ a_185) (fun _ h9 => h9) rfl d_X_state_85 ?_
            refine va_get (D := D) (ci := 7) (v := .int v_un) (C := "StepMachine$Core") (T := TX7) (N := 12) hx hb hts inU_7 hown hK hP 1 rfl rfl 11 (by decide) (hts _ a_167) (fun _ h9 => h9) rfl d_X_state_88 ?_
            exact W.iret (v := v_un) hx hb hr (fun t ht hW => ⟨_, rfl, by rw [cF_StepMachine_state, if_neg c_1_0, if_neg c_1_1, if_neg c_1_2, if_neg c_1_3, if_pos c_1_4], ht⟩) (fun q h => by cases h) d_X_state_91
          · skip
            by_cases c_1_5 : x0 = 5
            · skip
              refine lv_tableIn (tgt := 92) hx hb d_X_state_1 (by rw [c_1_5]; decide) (by rw [c_1_5]; decide) (by rw [c_1_5] <;> rfl) (by decide) ?_
              refine lv_aload_n hx hb d_X_state_92 rfl (lv_at hl 0 rfl) ?_
              refine va_get (D := D) (ci := 8) (v := .ref a_p) (C := "StepMachine") (T := TX8) (N := 6) hx hb hts inU_8 hown hK hP 0 rfl rfl 3 (by decide) (hts _ a_183) (fun _ h9 => h9) rfl d_X_state_93 ?_
              refine va_get (D := D) (ci := 3) (v := .int v_put) (C := "StepMachine$Ports") (T := TX3) (N := 5) hx hb hts inU_3 hown hK hP 2 rfl rfl 4 (by decide) (hts _ a_72) (fun _ h9 => h9) rfl d_X_state_96 ?_
              exact W.iret (v := v_put) hx hb hr (fun t ht hW => ⟨_, rfl, by rw [cF_StepMachine_state, if_neg c_1_0, if_neg c_1_1, if_neg c_1_2, if_neg c_1_3, if_neg c_1_4, if_pos c_1_5], ht⟩) (fun q h => by cases h) d_X_state_99
            · skip
              by_cases c_1_6 : x0 = 6
              · skip
                refine lv_tableIn (tgt := 100) hx hb d_X_state_1 (by rw [c_1_6]; decide) (by rw [c_1_6]; decide) (by rw [c_1_6] <;> rfl) (by decide) ?_
                refine lv_aload_n hx hb d_X_state_100 rfl (lv_at hl 0 rfl) ?_
                refine va_get (D := D) (ci := 8) (v := .ref a_p) (C := "StepMachine") (T := TX8) (N := 6) hx hb hts inU_8 hown hK hP 0 rfl rfl 3 (by decide) (hts _ a_183) (fun _ h9 => h9) rfl d_X_state_101 ?_
                refine va_get (D := D) (ci := 3) (v := .int v_giv) (C := "StepMachine$Ports") (T := TX3) (N := 5) hx hb hts inU_3 hown hK hP 2 rfl rfl 2 (by decide) (hts _ a_66) (fun _ h9 => h9) rfl d_X_state_104 ?_
                refine lv_aload_n hx hb d_X_state_107 rfl (lv_at hl 0 rfl) ?_
                refine va_get (D := D) (ci := 8) (v := .ref a_p) (C := "StepMachine") (T := TX8) (N := 6) hx hb hts inU_8 hown hK hP 0 rfl rfl 3 (by decide) (hts _ a_183) (fun _ h9 => h9) rfl d_X_state_108 ?_
                refine va_get (D := D) (ci := 3) (v := .int v_tak) (C := "StepMachine$Ports") (T := TX3) (N := 5) hx hb hts inU_3 hown hK hP 2 rfl rfl 3 (by decide) (hts _ a_69) (fun _ h9 => h9) rfl d_X_state_111 ?_
                refine lv_isub hx hb d_X_state_114 ?_
                exact W.iret (v := (v_giv - v_tak)) hx hb hr (fun t ht hW => ⟨_, rfl, by rw [cF_StepMachine_state, if_neg c_1_0, if_neg c_1_1, if_neg c_1_2, if_neg c_1_3, if_neg c_1_4, if_neg c_1_5, if_pos c_1_6], ht⟩) (fun q h => by cases h) d_X_state_115
              · skip
                by_cases c_1_7 : x0 = 7
                · skip
                  refine lv_tableIn (tgt := 116) hx hb d_X_state_1 (by rw [c_1_7]; decide) (by rw [c_1_7]; decide) (by rw [c_1_7] <;> rfl) (by decide) ?_
                  refine lv_aload_n hx hb d_X_state_116 rfl (lv_at hl 0 rfl) ?_
                  refine va_get (D := D) (ci := 8) (v := .ref a_t) (C := "StepMachine") (T := TX8) (N := 6) hx hb hts inU_8 hown hK hP 0 rfl rfl 4 (by decide) (hts _ a_184) (fun _ h9 => h9) rfl d_X_state_117 ?_
                  refine va_get (D := D) (ci := 6) (v := .int v_ct) (C := "StepMachine$Trail") (T := TX6) (N := 3) hx hb hts inU_6 hown hK hP 3 rfl rfl 2 (by decide) (hts _ a_117) (fun _ h9 => h9) rfl d_X_state_120 ?_
                  exact W.iret (v := v_ct) hx hb hr (fun t ht hW => ⟨_, rfl, by rw [cF_StepMachine_state, if_neg c_1_0, if_neg c_1_1, if_neg c_1_2, if_neg c_1_3, if_neg c_1_4, if_neg c_1_5, if_neg c_1_6, if_pos c_1_7], ht⟩) (fun q h => by cases h) d_X_state_123
                · skip
                  by_cases c_1_8 : x0 = 8
                  · skip
                    refine lv_tableIn (tgt := 124) hx hb d_X_state_1 (by rw [c_1_8]; decide) (by rw [c_1_8]; decide) (by rw [c_1_8] <;> rfl) (by decide) ?_
                    refine lv_aload_n hx hb d_X_state_124 rfl (lv_at hl 0 rfl) ?_
                    refine va_get (D := D) (ci := 8) (v := .ref a_h) (C := "StepMachine") (T := TX8) (N := 6) hx hb hts inU_8 hown hK hP 0 rfl rfl 2 (by decide) (hts _ a_182) (fun _ h9 => h9) rfl d_X_state_125 ?_
                    refine va_get (D := D) (ci := 2) (v := .int v_hc) (C := "StepMachine$Halts") (T := TX2) (N := 2) hx hb hts inU_2 hown hK hP 4 rfl rfl 1 (by decide) (hts _ a_55) (fun _ h9 => h9) rfl d_X_state_128 ?_
                    exact W.iret (v := v_hc) hx hb hr (fun t ht hW => ⟨_, rfl, by rw [cF_StepMachine_state, if_neg c_1_0, if_neg c_1_1, if_neg c_1_2, if_neg c_1_3, if_neg c_1_4, if_neg c_1_5, if_neg c_1_6, if_neg c_1_7, if_pos c_1_8], ht⟩) (fun q h => by cases h) d_X_state_131
                  · skip
                    refine lv_tableOut (tgt := 132) hx hb d_X_state_1 (by have n_0 := lv_neT (a := 0) c_1_0 (by decide); have n_1 := lv_neT (a := 1) c_1_1 (by decide); have n_2 := lv_neT (a := 2) c_1_2 (by decide); have n_3 := lv_neT (a := 3) c_1_3 (by decide); have n_4 := lv_neT (a := 4) c_1_4 (by decide); have n_5 := lv_neT (a := 5) c_1_5 (by decide); have n_6 := lv_neT (a := 6) c_1_6 (by decide); have n_7 := lv_neT (a := 7) c_1_7 (by decide); have n_8 := lv_neT (a := 8) c_1_8 (by decide); omega) (by decide) ?_
                    refine lv_iconst (v := (-1)) hx hb d_X_state_132 (by decide) ?_
                    exact W.iret (v := (-1)) hx hb hr (fun t ht hW => ⟨_, rfl, by rw [cF_StepMachine_state, if_neg c_1_0, if_neg c_1_1, if_neg c_1_2, if_neg c_1_3, if_neg c_1_4, if_neg c_1_5, if_neg c_1_6, if_neg c_1_7, if_neg c_1_8], ht⟩) (fun q h => by cases h) d_X_state_133
def cF_StepMachine_output (v_put : Int32) (v_out : Nat → Int32) (x0 : Int32) : Int32 := (cF_Ports_outputAt v_put v_out x0)
set_option maxHeartbeats 4000000 in
set_option maxRecDepth 100000 in
theorem cc_StepMachine_output (l : Launch) (D : va_G) (tc : Nat → ClassId) (tb : Nat → Nat) (z0 : Nat) (a_x a_p a_po a_m a_g a_h a_t a_c a_pi : Nat) (v_giv : Int32) (v_tak : Int32) (v_put : Int32) (v_out : Nat → Int32) (x0 : Int32) (hp2 : 0 ≤ v_put.toInt ∧ v_put.toInt ≤ 2000) : Met l y_X_output (wM y_X_output b_X_output 2 (some .int)) ({ frames := 1, cells := 0, slots := 0, locals := 21 }) (va_Pc [.ref a_x, .int x0] (Pr D tc tb z0 [(a_x, .inr (8, [.ref a_m, .ref a_g, .ref a_h, .ref a_p, .ref a_t, .ref a_c])), (a_p, .inr (3, [.ref a_pi, .ref a_po, .int v_giv, .int v_tak, .int v_put])), (a_po, .inl (tc 1, 2000, .inl v_out))])) (vp_Si (fun r => r = (cF_StepMachine_output v_put v_out x0))) 0 0 (fun _ => False) := by
  refine Met.ofW (cc := b_X_output) (maxL := 2) (ret := (some .int)) (by decide) rfl ?_
  intro p e s m args below meth c s₁ B hml hv
  obtain ⟨rfl, hP, hK, hB⟩ := hv
  have hx := B.exec
  have hb := B.bytes
  have hr := B.returns
  have hts : ∀ w ∈ wALL, w.before _ s = true := fun w h => atoms_spec (ws := (wM y_X_output b_X_output 2 (some .int))) B.pre w (List.mem_cons_of_mem _ h)
  have hown : s.vm.findClass "StepMachine" = some m.cls := findClass_of_methodNamed B.named
  have hlocks := B.notSynchronized
  have hl := lv_entry ([.ref a_x, .int x0]) (n := 2) (Nat.le_of_ble_eq_true rfl)
  rw [lg_entry_eq]
  generalize (lg_sl ([.ref a_x, .int x0]) ++ List.replicate (2 - (lg_sl ([.ref a_x, .int x0])).length) Slot.unset).toArray = ls at hl ⊢
  have hl : lv_has ls 2 [(0, .ref a_x), (1, .int x0)] := hl
  refine lv_aload_n hx hb d_X_output_0 rfl (lv_at hl 0 rfl) ?_
  refine va_get (D := D) (ci := 8) (v := .ref a_p) (C := "StepMachine") (T := TX8) (N := 6) hx hb hts inU_8 hown hK hP 0 rfl rfl 3 (by decide) (hts _ a_183) (fun _ h9 => h9) rfl d_X_output_1 ?_
  refine lv_iload_n hx hb d_X_output_4 rfl (lv_at hl 1 rfl) ?_
  refine roVi (As := [.int x0]) (rest := []) ⟨hx, hb, hml, hown, hts⟩ (cc_Ports_outputAt l D tc tb z0 a_p a_po a_pi v_giv v_tak v_put v_out x0 hp2) (cwV 1 hts (goodV a_574 a_575 a_576 a_5 a_577) rfl rfl rfl hv_Port_outputAt ⟨Nat.le_of_ble_eq_true rfl, Nat.le_of_ble_eq_true rfl⟩) (hP.sub [1, 2] rfl) hK hB rfl rfl rfl hl.1 rfl (Nat.le_of_ble_eq_true rfl) d_X_output_5 ⟨Nat.zero_le _, Nat.zero_le _⟩ ?_
  exact W.iret (v := (cF_Ports_outputAt v_put v_out x0)) hx hb hr (fun t ht hW => ⟨_, rfl, by rw [cF_StepMachine_output], ht⟩) (fun q h => by cases h) d_X_output_8
def cF_StepMachine_rights (v_beg : Nat → Int32) (v_siz : Nat → Int32) (v_alw : Nat → Int32) (v_mrk : Nat → Int32) (x0 : Int32) : Int32 := (if (cF_Guard_isMarked v_mrk x0) = 0 then ((cF_Guard_rightsAt v_beg v_siz v_alw x0) + 0) else ((cF_Guard_rightsAt v_beg v_siz v_alw x0) + 8))
set_option maxHeartbeats 4000000 in
set_option maxRecDepth 100000 in
theorem cc_StepMachine_rights (l : Launch) (D : va_G) (tc : Nat → ClassId) (tb : Nat → Nat) (z0 : Nat) (a_x a_g a_gb a_gs a_ga a_gm a_m a_h a_p a_t a_c : Nat) (v_on : Int32) (v_beg : Nat → Int32) (v_siz : Nat → Int32) (v_alw : Nat → Int32) (v_mrk : Nat → Int32) (x0 : Int32) : Met l y_X_rights (wM y_X_rights b_X_rights 2 (some .int)) ({ frames := 2, cells := 0, slots := 0, locals := 41 }) (va_Pc [.ref a_x, .int x0] (Pr D tc tb z0 [(a_x, .inr (8, [.ref a_m, .ref a_g, .ref a_h, .ref a_p, .ref a_t, .ref a_c])), (a_g, .inr (1, [.ref a_gb, .ref a_gs, .ref a_ga, .ref a_gm, .int v_on])), (a_gb, .inl (tc 0, 8, .inl v_beg)), (a_gs, .inl (tc 0, 8, .inl v_siz)), (a_ga, .inl (tc 0, 8, .inl v_alw)), (a_gm, .inl (tc 0, 2048, .inl v_mrk))])) (vp_Si (fun r => r = (cF_StepMachine_rights v_beg v_siz v_alw v_mrk x0))) 0 0 (fun _ => False) := by
  refine Met.ofW (cc := b_X_rights) (maxL := 2) (ret := (some .int)) (by decide) rfl ?_
  intro p e s m args below meth c s₁ B hml hv
  obtain ⟨rfl, hP, hK, hB⟩ := hv
  have hx := B.exec
  have hb := B.bytes
  have hr := B.returns
  have hts : ∀ w ∈ wALL, w.before _ s = true := fun w h => atoms_spec (ws := (wM y_X_rights b_X_rights 2 (some .int))) B.pre w (List.mem_cons_of_mem _ h)
  have hown : s.vm.findClass "StepMachine" = some m.cls := findClass_of_methodNamed B.named
  have hlocks := B.notSynchronized
  have hl := lv_entry ([.ref a_x, .int x0]) (n := 2) (Nat.le_of_ble_eq_true rfl)
  rw [lg_entry_eq]
  generalize (lg_sl ([.ref a_x, .int x0]) ++ List.replicate (2 - (lg_sl ([.ref a_x, .int x0])).length) Slot.unset).toArray = ls at hl ⊢
  have hl : lv_has ls 2 [(0, .ref a_x), (1, .int x0)] := hl
  refine lv_aload_n hx hb d_X_rights_0 rfl (lv_at hl 0 rfl) ?_
  refine va_get (D := D) (ci := 8) (v := .ref a_g) (C := "StepMachine") (T := TX8) (N := 6) hx hb hts inU_8 hown hK hP 0 rfl rfl 1 (by decide) (hts _ a_181) (fun _ h9 => h9) rfl d_X_rights_1 ?_
  refine lv_iload_n hx hb d_X_rights_4 rfl (lv_at hl 1 rfl) ?_
  refine roVi (As := [.int x0]) (rest := []) ⟨hx, hb, hml, hown, hts⟩ (cc_Guard_rightsAt l D tc tb z0 a_g a_gb a_gs a_ga a_gm v_on v_beg v_siz v_alw x0) (cwV 1 hts (goodV a_582 a_341 a_342 a_3 a_343) rfl rfl rfl hv_Guar_rightsAt ⟨Nat.le_of_ble_eq_true rfl, Nat.le_of_ble_eq_true rfl⟩) (hP.sub [1, 2, 3, 4] rfl) hK hB rfl rfl rfl hl.1 rfl (Nat.le_of_ble_eq_true rfl) d_X_rights_5 ⟨Nat.zero_le _, Nat.zero_le _⟩ ?_
  refine lv_aload_n hx hb d_X_rights_8 rfl (lv_at hl 0 rfl) ?_
  refine va_get (D := D) (ci := 8) (v := .ref a_g) (C := "StepMachine") (T := TX8) (N := 6) hx hb hts inU_8 hown hK hP 0 rfl rfl 1 (by decide) (hts _ a_181) (fun _ h9 => h9) rfl d_X_rights_9 ?_
  refine lv_iload_n hx hb d_X_rights_12 rfl (lv_at hl 1 rfl) ?_
  refine roVi (As := [.int x0]) (rest := [.int (cF_Guard_rightsAt v_beg v_siz v_alw x0)]) ⟨hx, hb, hml, hown, hts⟩ (cc_Guard_isMarked l D tc tb z0 a_g a_gm a_gb a_gs a_ga v_on v_mrk x0) (cwV 1 hts (goodV a_583 a_475 a_476 a_3 a_477) rfl rfl rfl hv_Guar_isMarked ⟨Nat.le_of_ble_eq_true rfl, Nat.le_of_ble_eq_true rfl⟩) (hP.sub [1, 5] rfl) hK hB rfl rfl rfl hl.1 rfl (Nat.le_of_ble_eq_true rfl) d_X_rights_13 ⟨Nat.zero_le _, Nat.zero_le _⟩ ?_
  refine lv_if_eq (tgt := 24) hx hb d_X_rights_16 (by decide) (fun c_16 => ?_) (fun c_16 => ?_)
  · skip
    refine lv_iconst (v := 0) hx hb d_X_rights_24 (by decide) ?_
    refine lv_iadd hx hb d_X_rights_25 ?_
    exact W.iret (v := ((cF_Guard_rightsAt v_beg v_siz v_alw x0) + 0)) hx hb hr (fun t ht hW => ⟨_, rfl, by rw [cF_StepMachine_rights, if_pos c_16], ht⟩) (fun q h => by cases h) d_X_rights_26
  · skip
    refine lv_bipush (v := 8) hx hb d_X_rights_19 (by decide) ?_
    refine lv_goto (tgt := 25) hx hb d_X_rights_21 (by decide) ?_
    refine lv_iadd hx hb d_X_rights_25 ?_
    exact W.iret (v := ((cF_Guard_rightsAt v_beg v_siz v_alw x0) + 8)) hx hb hr (fun t ht hW => ⟨_, rfl, by rw [cF_StepMachine_rights, if_neg c_16], ht⟩) (fun q h => by cases h) d_X_rights_26
