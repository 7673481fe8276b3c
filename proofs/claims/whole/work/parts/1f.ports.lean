def cF_Ports_hasRoomIn (v_giv : Int32) (x0 : Int32) : Int32 := (if (1000 - v_giv) < x0 then 0 else 1)
set_option maxHeartbeats 4000000 in
set_option maxRecDepth 100000 in
theorem cc_Ports_hasRoomIn (l : Launch) (D : va_G) (tc : Nat → ClassId) (tb : Nat → Nat) (z0 : Nat) (a_p a_pi a_po : Nat) (v_giv : Int32) (v_tak : Int32) (v_put : Int32) (x0 : Int32) : Met l y_Port_hasRoomIn (wM y_Port_hasRoomIn b_Port_hasRoomIn 2 (some .boolean)) ({ frames := 0, cells := 0, slots := 0, locals := 0 }) (va_Pc [.ref a_p, .int x0] (Pr D tc tb z0 [(a_p, .inr (3, [.ref a_pi, .ref a_po, .int v_giv, .int v_tak, .int v_put]))])) (vp_Si (fun r => r = (cF_Ports_hasRoomIn v_giv x0))) 0 0 (fun _ => False) := by
  refine Met.ofW (cc := b_Port_hasRoomIn) (maxL := 2) (ret := (some .boolean)) (by decide) rfl ?_
  intro p e s m args below meth c s₁ B hml hv
  obtain ⟨rfl, hP, hK, hB⟩ := hv
  have hx := B.exec
  have hb := B.bytes
  have hr := B.returns
  have hts : ∀ w ∈ wALL, w.before _ s = true := fun w h => atoms_spec (ws := (wM y_Port_hasRoomIn b_Port_hasRoomIn 2 (some .boolean))) B.pre w (List.mem_cons_of_mem _ h)
  have hown : s.vm.findClass "StepMachine$Ports" = some m.cls := findClass_of_methodNamed B.named
  have hlocks := B.notSynchronized
  have hl := lv_entry ([.ref a_p, .int x0]) (n := 2) (Nat.le_of_ble_eq_true rfl)
  rw [lg_entry_eq]
  generalize (lg_sl ([.ref a_p, .int x0]) ++ List.replicate (2 - (lg_sl ([.ref a_p, .int x0])).length) Slot.unset).toArray = ls at hl ⊢
  have hl : lv_has ls 2 [(0, .ref a_p), (1, .int x0)] := hl
  refine lv_iload_n hx hb d_Port_hasRoomIn_0 rfl (lv_at hl 1 rfl) ?_
  refine lv_sipush (v := 1000) hx hb d_Port_hasRoomIn_1 (by decide) ?_
  refine lv_aload_n hx hb d_Port_hasRoomIn_4 rfl (lv_at hl 0 rfl) ?_
  refine va_get (D := D) (ci := 3) (v := .int v_giv) (C := "StepMachine$Ports") (T := TX3) (N := 5) hx hb hts inU_3 hown hK hP 0 rfl rfl 2 (by decide) (hts _ a_65) (fun _ h9 => h9) rfl d_Port_hasRoomIn_5 ?_
  refine lv_isub hx hb d_Port_hasRoomIn_8 ?_
  refine lv_icmp_gt (tgt := 16) hx hb d_Port_hasRoomIn_9 (by decide) (fun c_9 => ?_) (fun c_9 => ?_)
  · skip
    refine lv_iconst (v := 0) hx hb d_Port_hasRoomIn_16 (by decide) ?_
    exact W.zret (v := 0) hx hb hr rfl (fun t ht hW => ⟨_, rfl, by rw [cF_Ports_hasRoomIn, if_pos c_9], ht⟩) (fun q h => by cases h) d_Port_hasRoomIn_17
  · skip
    refine lv_iconst (v := 1) hx hb d_Port_hasRoomIn_12 (by decide) ?_
    refine lv_goto (tgt := 17) hx hb d_Port_hasRoomIn_13 (by decide) ?_
    exact W.zret (v := 1) hx hb hr rfl (fun t ht hW => ⟨_, rfl, by rw [cF_Ports_hasRoomIn, if_neg c_9], ht⟩) (fun q h => by cases h) d_Port_hasRoomIn_17
def cF_Ports_outputAt (v_put : Int32) (v_out : Nat → Int32) (x0 : Int32) : Int32 := (if x0 < 0 then (-1) else (if v_put ≤ x0 then (-1) else ((v_out x0.toNatClampNeg) &&& 255)))
set_option maxHeartbeats 4000000 in
set_option maxRecDepth 100000 in
theorem cc_Ports_outputAt (l : Launch) (D : va_G) (tc : Nat → ClassId) (tb : Nat → Nat) (z0 : Nat) (a_p a_po a_pi : Nat) (v_giv : Int32) (v_tak : Int32) (v_put : Int32) (v_out : Nat → Int32) (x0 : Int32) (hp2 : 0 ≤ v_put.toInt ∧ v_put.toInt ≤ 2000) : Met l y_Port_outputAt (wM y_Port_outputAt b_Port_outputAt 2 (some .int)) ({ frames := 0, cells := 0, slots := 0, locals := 0 }) (va_Pc [.ref a_p, .int x0] (Pr D tc tb z0 [(a_p, .inr (3, [.ref a_pi, .ref a_po, .int v_giv, .int v_tak, .int v_put])), (a_po, .inl (tc 1, 2000, .inl v_out))])) (vp_Si (fun r => r = (cF_Ports_outputAt v_put v_out x0))) 0 0 (fun _ => False) := by
  refine Met.ofW (cc := b_Port_outputAt) (maxL := 2) (ret := (some .int)) (by decide) rfl ?_
  intro p e s m args below meth c s₁ B hml hv
  obtain ⟨rfl, hP, hK, hB⟩ := hv
  have hx := B.exec
  have hb := B.bytes
  have hr := B.returns
  have hts : ∀ w ∈ wALL, w.before _ s = true := fun w h => atoms_spec (ws := (wM y_Port_outputAt b_Port_outputAt 2 (some .int))) B.pre w (List.mem_cons_of_mem _ h)
  have hown : s.vm.findClass "StepMachine$Ports" = some m.cls := findClass_of_methodNamed B.named
  have hlocks := B.notSynchronized
  have hl := lv_entry ([.ref a_p, .int x0]) (n := 2) (Nat.le_of_ble_eq_true rfl)
  rw [lg_entry_eq]
  generalize (lg_sl ([.ref a_p, .int x0]) ++ List.replicate (2 - (lg_sl ([.ref a_p, .int x0])).length) Slot.unset).toArray = ls at hl ⊢
  have hl : lv_has ls 2 [(0, .ref a_p), (1, .int x0)] := hl
  refine lv_iload_n hx hb d_Port_outputAt_0 rfl (lv_at hl 1 rfl) ?_
  refine lv_if_lt (tgt := 25) hx hb d_Port_outputAt_1 (by decide) (fun c_1 => ?_) (fun c_1 => ?_)
  · skip
    refine lv_iconst (v := (-1)) hx hb d_Port_outputAt_25 (by decide) ?_
    exact W.iret (v := (-1)) hx hb hr (fun t ht hW => ⟨_, rfl, by rw [cF_Ports_outputAt, if_pos c_1], ht⟩) (fun q h => by cases h) d_Port_outputAt_26
  · skip
    refine lv_iload_n hx hb d_Port_outputAt_4 rfl (lv_at hl 1 rfl) ?_
    refine lv_aload_n hx hb d_Port_outputAt_5 rfl (lv_at hl 0 rfl) ?_
    refine va_get (D := D) (ci := 3) (v := .int v_put) (C := "StepMachine$Ports") (T := TX3) (N := 5) hx hb hts inU_3 hown hK hP 0 rfl rfl 4 (by decide) (hts _ a_70) (fun _ h9 => h9) rfl d_Port_outputAt_6 ?_
    refine lv_icmp_ge (tgt := 25) hx hb d_Port_outputAt_9 (by decide) (fun c_9 => ?_) (fun c_9 => ?_)
    · skip
      refine lv_iconst (v := (-1)) hx hb d_Port_outputAt_25 (by decide) ?_
      exact W.iret (v := (-1)) hx hb hr (fun t ht hW => ⟨_, rfl, by rw [cF_Ports_outputAt, if_neg c_1, if_pos c_9], ht⟩) (fun q h => by cases h) d_Port_outputAt_26
    · skip
      refine lv_aload_n hx hb d_Port_outputAt_12 rfl (lv_at hl 0 rfl) ?_
      refine va_get (D := D) (ci := 3) (v := .ref a_po) (C := "StepMachine$Ports") (T := TX3) (N := 5) hx hb hts inU_3 hown hK hP 0 rfl rfl 1 (by decide) (hts _ a_64) (fun _ h9 => h9) rfl d_Port_outputAt_13 ?_
      refine lv_iload_n hx hb d_Port_outputAt_16 rfl (lv_at hl 1 rfl) ?_
      refine va_bald hx hb hK hP 1 1 rfl rfl (ob_rng (ob_nlt c_1) c_9 hp2.2) d_Port_outputAt_17 ?_
      refine lv_sipush (v := 255) hx hb d_Port_outputAt_18 (by decide) ?_
      refine lv_iand hx hb d_Port_outputAt_21 ?_
      refine lv_goto (tgt := 26) hx hb d_Port_outputAt_22 (by decide) ?_
      exact W.iret (v := ((v_out x0.toNatClampNeg) &&& 255)) hx hb hr (fun t ht hW => ⟨_, rfl, by rw [cF_Ports_outputAt, if_neg c_1, if_neg c_9], ht⟩) (fun q h => by cases h) d_Port_outputAt_26
def cF_Ports_take (v_giv : Int32) (v_tak : Int32) (v_in : Nat → Int32) : Int32 × Int32 := (if v_tak < v_giv then (((v_in v_tak.toNatClampNeg) &&& 255), (v_tak + 1)) else ((-1), v_tak))
set_option maxHeartbeats 4000000 in
set_option maxRecDepth 100000 in
theorem cc_Ports_take (l : Launch) (D : va_G) (tc : Nat → ClassId) (tb : Nat → Nat) (z0 : Nat) (sz : Nat) (a_p a_pi a_po : Nat) (v_giv : Int32) (v_tak : Int32) (v_put : Int32) (v_in : Nat → Int32) (hp0 : 0 ≤ v_giv.toInt ∧ v_giv.toInt ≤ 1000) (hp1 : 0 ≤ v_tak.toInt) : Met l y_Port_take (wM y_Port_take b_Port_take 2 (some .int)) ({ frames := 0, cells := 0, slots := 0, locals := 0 }) (va_Pc [.ref a_p] (Pw D tc tb z0 [(a_p, .inr (3, [.ref a_pi, .ref a_po, .int v_giv, .int v_tak, .int v_put])), (a_pi, .inl (tc 1, 1000, .inl v_in))] sz)) (va_Qi (fun (r : Int32) (u : Int32) => (r, u) = (cF_Ports_take v_giv v_tak v_in)) (Bw D tc (va_A [(a_p, .inr (3, [.ref a_pi, .ref a_po, .int v_giv, .int v_tak, .int v_put])), (a_pi, .inl (tc 1, 1000, .inl v_in))] sz) (fun u => [(a_p, .inr (3, [.ref a_pi, .ref a_po, .int v_giv, .int u, .int v_put])), (a_pi, .inl (tc 1, 1000, .inl v_in))])) (va_A [(a_p, .inr (3, [.ref a_pi, .ref a_po, .int v_giv, .int v_tak, .int v_put])), (a_pi, .inl (tc 1, 1000, .inl v_in))] sz)) 0 0 (va_A [(a_p, .inr (3, [.ref a_pi, .ref a_po, .int v_giv, .int v_tak, .int v_put])), (a_pi, .inl (tc 1, 1000, .inl v_in))] sz) := by
  refine Met.ofW (cc := b_Port_take) (maxL := 2) (ret := (some .int)) (by decide) rfl ?_
  intro p e s m args below meth c s₁ B hml hv
  obtain ⟨rfl, hsz, hP, hK, hB, hD0, hZ0⟩ := hv
  have hx := B.exec
  have hb := B.bytes
  have hr := B.returns
  have hts : ∀ w ∈ wALL, w.before _ s = true := fun w h => atoms_spec (ws := (wM y_Port_take b_Port_take 2 (some .int))) B.pre w (List.mem_cons_of_mem _ h)
  have hown : s.vm.findClass "StepMachine$Ports" = some m.cls := findClass_of_methodNamed B.named
  have hlocks := B.notSynchronized
  subst hsz
  have hD := hD0.self (sz := s.heap.size)
  generalize hAe : va_A [(a_p, .inr (3, [.ref a_pi, .ref a_po, .int v_giv, .int v_tak, .int v_put])), (a_pi, .inl (tc 1, 1000, .inl v_in))] s.heap.size = A at hD ⊢
  have hZ : ∀ q : Nat, A q → z0 ≤ q := by rw [← hAe]; exact hZ0
  have hA : ∀ q : Nat, s.heap.size ≤ q → A q := fun q h => by rw [← hAe]; exact Or.inr h
  have hS : va_S A s.heap s.heap [] := va_S.rf
  have hl := lv_entry ([.ref a_p]) (n := 2) (Nat.le_of_ble_eq_true rfl)
  rw [lg_entry_eq]
  generalize (lg_sl ([.ref a_p]) ++ List.replicate (2 - (lg_sl ([.ref a_p])).length) Slot.unset).toArray = ls at hl ⊢
  have hl : lv_has ls 2 [(0, .ref a_p)] := hl
  refine lv_aload_n hx hb d_Port_take_0 rfl (lv_at hl 0 rfl) ?_
  refine va_get (D := D) (ci := 3) (v := .int v_tak) (C := "StepMachine$Ports") (T := TX3) (N := 5) hx hb hts inU_3 hown hK hP 0 rfl rfl 3 (by decide) (hts _ a_67) (fun _ h9 => h9) rfl d_Port_take_1 ?_
  refine lv_aload_n hx hb d_Port_take_4 rfl (lv_at hl 0 rfl) ?_
  refine va_get (D := D) (ci := 3) (v := .int v_giv) (C := "StepMachine$Ports") (T := TX3) (N := 5) hx hb hts inU_3 hown hK hP 0 rfl rfl 2 (by decide) (hts _ a_65) (fun _ h9 => h9) rfl d_Port_take_5 ?_
  refine lv_icmp_lt (tgt := 13) hx hb d_Port_take_8 (by decide) (fun c_8 => ?_) (fun c_8 => ?_)
  · skip
    refine lv_aload_n hx hb d_Port_take_13 rfl (lv_at hl 0 rfl) ?_
    refine va_get (D := D) (ci := 3) (v := .ref a_pi) (C := "StepMachine$Ports") (T := TX3) (N := 5) hx hb hts inU_3 hown hK hP 0 rfl rfl 0 (by decide) (hts _ a_63) (fun _ h9 => h9) rfl d_Port_take_14 ?_
    refine lv_aload_n hx hb d_Port_take_17 rfl (lv_at hl 0 rfl) ?_
    refine va_get (D := D) (ci := 3) (v := .int v_tak) (C := "StepMachine$Ports") (T := TX3) (N := 5) hx hb hts inU_3 hown hK hP 0 rfl rfl 3 (by decide) (hts _ a_67) (fun _ h9 => h9) rfl d_Port_take_18 ?_
    refine va_bald hx hb hK hP 1 1 rfl rfl (ob_rngL hp1 c_8 hp0.2) d_Port_take_21 ?_
    refine lv_sipush (v := 255) hx hb d_Port_take_22 (by decide) ?_
    refine lv_iand hx hb d_Port_take_25 ?_
    refine lv_istore_n (lv' := [(1, .int ((v_in v_tak.toNatClampNeg) &&& 255)), (0, .ref a_p)]) hx hb d_Port_take_26 rfl hl (by decide) rfl (fun ls hl => ?_)
    refine lv_aload_n hx hb d_Port_take_27 rfl (lv_at hl 1 rfl) ?_
    refine lv_dup hx hb d_Port_take_28 rfl ?_
    refine va_get (D := D) (ci := 3) (v := .int v_tak) (C := "StepMachine$Ports") (T := TX3) (N := 5) hx hb hts inU_3 hown hK hP 0 rfl rfl 3 (by decide) (hts _ a_67) (fun _ h9 => h9) rfl d_Port_take_29 ?_
    refine lv_iconst (v := 1) hx hb d_Port_take_32 (by decide) ?_
    refine lv_iadd hx hb d_Port_take_33 ?_
    refine va_put (D := D) (ci := 3) (v := .int (v_tak + 1)) (ty := .int) (C := "StepMachine$Ports") (T := TX3) (N := 5) hx hb hts inU_3 tyX3 tyX3_ok nmX3 hown hK hP hD hS 0 rfl rfl 3 (by decide) (hts _ a_67) (fun _ h9 => h9) rfl (by decide +kernel) rfl rfl (Nat.le_of_ble_eq_true rfl) d_Port_take_34 (fun H locs hP hD hS => ?_)
    have hP : va_P D vwCl [(a_p, .inr (3, [.ref a_pi, .ref a_po, .int v_giv, .int (v_tak + 1), .int v_put])), (a_pi, .inl (tc 1, 1000, .inl v_in))] H := hP
    have hD : va_D A [(a_p, .inr (3, [.ref a_pi, .ref a_po, .int v_giv, .int (v_tak + 1), .int v_put])), (a_pi, .inl (tc 1, 1000, .inl v_in))] := hD
    refine lv_iload_n hx hb d_Port_take_37 rfl (lv_at hl 0 rfl) ?_
    exact W.iret (v := ((v_in v_tak.toNatClampNeg) &&& 255)) hx hb hr (fun t ht hW => ⟨⟨_, (v_tak + 1), rfl, by rw [cF_Ports_take, if_pos c_8], by rw [ht]; exact hP, va_K.moved hW.alike hK, hD⟩, hS.F ht⟩) hS.2.2 d_Port_take_38
  · skip
    refine lv_iconst (v := (-1)) hx hb d_Port_take_11 (by decide) ?_
    exact W.iret (v := (-1)) hx hb hr (fun t ht hW => ⟨⟨_, v_tak, rfl, by rw [cF_Ports_take, if_neg c_8], by rw [ht]; exact hP, va_K.moved hW.alike hK, hD⟩, hS.F ht⟩) hS.2.2 d_Port_take_12
def cF_Ports_put (v_put : Int32) (v_out : Nat → Int32) (x0 : Int32) : Int32 × (Nat → Int32) × Int32 := (if v_put < 2000 then ((v_put + 1), (upd v_out v_put.toNatClampNeg (vp_nar .byte x0.toInt8.toInt32)), (v_put + 1)) else ((-1), v_out, v_put))
set_option maxHeartbeats 4000000 in
set_option maxRecDepth 100000 in
theorem cc_Ports_put (l : Launch) (D : va_G) (tc : Nat → ClassId) (tb : Nat → Nat) (z0 : Nat) (sz : Nat) (a_p a_po a_pi : Nat) (v_giv : Int32) (v_tak : Int32) (v_put : Int32) (v_out : Nat → Int32) (x0 : Int32) (hp2 : 0 ≤ v_put.toInt ∧ v_put.toInt ≤ 2000) : Met l y_Port_put (wM y_Port_put b_Port_put 2 (some .int)) ({ frames := 0, cells := 0, slots := 0, locals := 0 }) (va_Pc [.ref a_p, .int x0] (Pw D tc tb z0 [(a_p, .inr (3, [.ref a_pi, .ref a_po, .int v_giv, .int v_tak, .int v_put])), (a_po, .inl (tc 1, 2000, .inl v_out))] sz)) (va_Qi (fun (r : Int32) (u : (Nat → Int32) × Int32) => (r, u) = (cF_Ports_put v_put v_out x0)) (Bw D tc (va_A [(a_p, .inr (3, [.ref a_pi, .ref a_po, .int v_giv, .int v_tak, .int v_put])), (a_po, .inl (tc 1, 2000, .inl v_out))] sz) (fun u => [(a_p, .inr (3, [.ref a_pi, .ref a_po, .int v_giv, .int v_tak, .int u.2])), (a_po, .inl (tc 1, 2000, .inl u.1))])) (va_A [(a_p, .inr (3, [.ref a_pi, .ref a_po, .int v_giv, .int v_tak, .int v_put])), (a_po, .inl (tc 1, 2000, .inl v_out))] sz)) 0 0 (va_A [(a_p, .inr (3, [.ref a_pi, .ref a_po, .int v_giv, .int v_tak, .int v_put])), (a_po, .inl (tc 1, 2000, .inl v_out))] sz) := by
  refine Met.ofW (cc := b_Port_put) (maxL := 2) (ret := (some .int)) (by decide) rfl ?_
  intro p e s m args below meth c s₁ B hml hv
  obtain ⟨rfl, hsz, hP, hK, hB, hD0, hZ0⟩ := hv
  have hx := B.exec
  have hb := B.bytes
  have hr := B.returns
  have hts : ∀ w ∈ wALL, w.before _ s = true := fun w h => atoms_spec (ws := (wM y_Port_put b_Port_put 2 (some .int))) B.pre w (List.mem_cons_of_mem _ h)
  have hown : s.vm.findClass "StepMachine$Ports" = some m.cls := findClass_of_methodNamed B.named
  have hlocks := B.notSynchronized
  subst hsz
  have hD := hD0.self (sz := s.heap.size)
  generalize hAe : va_A [(a_p, .inr (3, [.ref a_pi, .ref a_po, .int v_giv, .int v_tak, .int v_put])), (a_po, .inl (tc 1, 2000, .inl v_out))] s.heap.size = A at hD ⊢
  have hZ : ∀ q : Nat, A q → z0 ≤ q := by rw [← hAe]; exact hZ0
  have hA : ∀ q : Nat, s.heap.size ≤ q → A q := fun q h => by rw [← hAe]; exact Or.inr h
  have hS : va_S A s.heap s.heap [] := va_S.rf
  have hl := lv_entry ([.ref a_p, .int x0]) (n := 2) (Nat.le_of_ble_eq_true rfl)
  rw [lg_entry_eq]
  generalize (lg_sl ([.ref a_p, .int x0]) ++ List.replicate (2 - (lg_sl ([.ref a_p, .int x0])).length) Slot.unset).toArray = ls at hl ⊢
  have hl : lv_has ls 2 [(0, .ref a_p), (1, .int x0)] := hl
  refine lv_aload_n hx hb d_Port_put_0 rfl (lv_at hl 0 rfl) ?_
  refine va_get (D := D) (ci := 3) (v := .int v_put) (C := "StepMachine$Ports") (T := TX3) (N := 5) hx hb hts inU_3 hown hK hP 0 rfl rfl 4 (by decide) (hts _ a_70) (fun _ h9 => h9) rfl d_Port_put_1 ?_
  refine lv_sipush (v := 2000) hx hb d_Port_put_4 (by decide) ?_
  refine lv_icmp_lt (tgt := 12) hx hb d_Port_put_7 (by decide) (fun c_7 => ?_) (fun c_7 => ?_)
  · skip
    refine lv_aload_n hx hb d_Port_put_12 rfl (lv_at hl 0 rfl) ?_
    refine va_get (D := D) (ci := 3) (v := .ref a_po) (C := "StepMachine$Ports") (T := TX3) (N := 5) hx hb hts inU_3 hown hK hP 0 rfl rfl 1 (by decide) (hts _ a_64) (fun _ h9 => h9) rfl d_Port_put_13 ?_
    refine lv_aload_n hx hb d_Port_put_16 rfl (lv_at hl 0 rfl) ?_
    refine va_get (D := D) (ci := 3) (v := .int v_put) (C := "StepMachine$Ports") (T := TX3) (N := 5) hx hb hts inU_3 hown hK hP 0 rfl rfl 4 (by decide) (hts _ a_70) (fun _ h9 => h9) rfl d_Port_put_17 ?_
    refine lv_iload_n hx hb d_Port_put_20 rfl (lv_at hl 1 rfl) ?_
    refine lv_i2b (v := x0.toInt8.toInt32) hx hb d_Port_put_21 rfl ?_
    refine va_bast hx hb hK hP hD hS 1 1 rfl rfl (ob_rngL hp2.1 c_7 (by decide)) d_Port_put_22 (fun H locs hP hD hS => ?_)
    have hP : va_P D vwCl [(a_p, .inr (3, [.ref a_pi, .ref a_po, .int v_giv, .int v_tak, .int v_put])), (a_po, .inl (tc 1, 2000, .inl (upd v_out v_put.toNatClampNeg (vp_nar .byte x0.toInt8.toInt32))))] H := hP
    have hD : va_D A [(a_p, .inr (3, [.ref a_pi, .ref a_po, .int v_giv, .int v_tak, .int v_put])), (a_po, .inl (tc 1, 2000, .inl (upd v_out v_put.toNatClampNeg (vp_nar .byte x0.toInt8.toInt32))))] := hD
    refine lv_aload_n hx hb d_Port_put_23 rfl (lv_at hl 0 rfl) ?_
    refine lv_dup hx hb d_Port_put_24 rfl ?_
    refine va_get (D := D) (ci := 3) (v := .int v_put) (C := "StepMachine$Ports") (T := TX3) (N := 5) hx hb hts inU_3 hown hK hP 0 rfl rfl 4 (by decide) (hts _ a_70) (fun _ h9 => h9) rfl d_Port_put_25 ?_
    refine lv_iconst (v := 1) hx hb d_Port_put_28 (by decide) ?_
    refine lv_iadd hx hb d_Port_put_29 ?_
    refine va_put (D := D) (ci := 3) (v := .int (v_put + 1)) (ty := .int) (C := "StepMachine$Ports") (T := TX3) (N := 5) hx hb hts inU_3 tyX3 tyX3_ok nmX3 hown hK hP hD hS 0 rfl rfl 4 (by decide) (hts _ a_70) (fun _ h9 => h9) rfl (by decide +kernel) rfl rfl (Nat.le_of_ble_eq_true rfl) d_Port_put_30 (fun H locs hP hD hS => ?_)
    have hP : va_P D vwCl [(a_p, .inr (3, [.ref a_pi, .ref a_po, .int v_giv, .int v_tak, .int (v_put + 1)])), (a_po, .inl (tc 1, 2000, .inl (upd v_out v_put.toNatClampNeg (vp_nar .byte x0.toInt8.toInt32))))] H := hP
    have hD : va_D A [(a_p, .inr (3, [.ref a_pi, .ref a_po, .int v_giv, .int v_tak, .int (v_put + 1)])), (a_po, .inl (tc 1, 2000, .inl (upd v_out v_put.toNatClampNeg (vp_nar .byte x0.toInt8.toInt32))))] := hD
    refine lv_aload_n hx hb d_Port_put_33 rfl (lv_at hl 0 rfl) ?_
    refine va_get (D := D) (ci := 3) (v := .int (v_put + 1)) (C := "StepMachine$Ports") (T := TX3) (N := 5) hx hb hts inU_3 hown hK hP 0 rfl rfl 4 (by decide) (hts _ a_70) (fun _ h9 => h9) rfl d_Port_put_34 ?_
    exact W.iret (v := (v_put + 1)) hx hb hr (fun t ht hW => ⟨⟨_, ((upd v_out v_put.toNatClampNeg (vp_nar .byte x0.toInt8.toInt32)), (v_put + 1)), rfl, by rw [cF_Ports_put, if_pos c_7], by rw [ht]; exact hP, va_K.moved hW.alike hK, hD⟩, hS.F ht⟩) hS.2.2 d_Port_put_37
  · skip
    refine lv_iconst (v := (-1)) hx hb d_Port_put_10 (by decide) ?_
    exact W.iret (v := (-1)) hx hb hr (fun t ht hW => ⟨⟨_, (v_out, v_put), rfl, by rw [cF_Ports_put, if_neg c_7], by rw [ht]; exact hP, va_K.moved hW.alike hK, hD⟩, hS.F ht⟩) hS.2.2 d_Port_put_11
theorem ob_give {v_giv : Int32} (hp0 : 0 ≤ v_giv.toInt ∧ v_giv.toInt ≤ 1000) (h : ¬ cF_Ports_hasRoomIn v_giv 1 = 0) : vp_in v_giv 1000 := by
  rw [cF_Ports_hasRoomIn] at h
  split at h
  · exact absurd rfl h
  · rename_i h1
    have a := ob_nlt h1
    have h0 : v_giv.toNatClampNeg = v_giv.toInt.toNat := rfl
    have e : v_giv = nI v_giv.toNatClampNeg := by
      apply Int32.toInt_inj.mp
      rw [nI_toInt (by omega)]
      omega
    rw [e, show (1000 : Int32) = nI 1000 from rfl, pk_sub (by omega), nI_toInt (by omega)] at a
    have e1 : (1 : Int32).toInt = 1 := by decide
    rw [vp_in_iff]
    omega
def cF_Ports_give (v_giv : Int32) (v_in : Nat → Int32) (x0 : Int32) : (Nat → Int32) × Int32 := (if (cF_Ports_hasRoomIn v_giv 1) = 0 then (v_in, v_giv) else ((upd v_in v_giv.toNatClampNeg (vp_nar .byte x0.toInt8.toInt32)), (v_giv + 1)))
set_option maxHeartbeats 4000000 in
set_option maxRecDepth 100000 in
theorem cc_Ports_give (l : Launch) (D : va_G) (tc : Nat → ClassId) (tb : Nat → Nat) (z0 : Nat) (sz : Nat) (a_p a_pi a_po : Nat) (v_giv : Int32) (v_tak : Int32) (v_put : Int32) (v_in : Nat → Int32) (x0 : Int32) (hp0 : 0 ≤ v_giv.toInt ∧ v_giv.toInt ≤ 1000) : Met l y_Port_give (wM y_Port_give b_Port_give 2 none) ({ frames := 1, cells := 0, slots := 0, locals := 21 }) (va_Pc [.ref a_p, .int x0] (Pw D tc tb z0 [(a_p, .inr (3, [.ref a_pi, .ref a_po, .int v_giv, .int v_tak, .int v_put])), (a_pi, .inl (tc 1, 1000, .inl v_in))] sz)) (va_Qv (fun u : (Nat → Int32) × Int32 => u = (cF_Ports_give v_giv v_in x0)) (Bw D tc (va_A [(a_p, .inr (3, [.ref a_pi, .ref a_po, .int v_giv, .int v_tak, .int v_put])), (a_pi, .inl (tc 1, 1000, .inl v_in))] sz) (fun u => [(a_p, .inr (3, [.ref a_pi, .ref a_po, .int u.2, .int v_tak, .int v_put])), (a_pi, .inl (tc 1, 1000, .inl u.1))])) (va_A [(a_p, .inr (3, [.ref a_pi, .ref a_po, .int v_giv, .int v_tak, .int v_put])), (a_pi, .inl (tc 1, 1000, .inl v_in))] sz)) 0 0 (va_A [(a_p, .inr (3, [.ref a_pi, .ref a_po, .int v_giv, .int v_tak, .int v_put])), (a_pi, .inl (tc 1, 1000, .inl v_in))] sz) := by
  refine Met.ofW (cc := b_Port_give) (maxL := 2) (ret := none) (by decide) rfl ?_
  intro p e s m args below meth c s₁ B hml hv
  obtain ⟨rfl, hsz, hP, hK, hB, hD0, hZ0⟩ := hv
  have hx := B.exec
  have hb := B.bytes
  have hr := B.returns
  have hts : ∀ w ∈ wALL, w.before _ s = true := fun w h => atoms_spec (ws := (wM y_Port_give b_Port_give 2 none)) B.pre w (List.mem_cons_of_mem _ h)
  have hown : s.vm.findClass "StepMachine$Ports" = some m.cls := findClass_of_methodNamed B.named
  have hlocks := B.notSynchronized
  subst hsz
  have hD := hD0.self (sz := s.heap.size)
  generalize hAe : va_A [(a_p, .inr (3, [.ref a_pi, .ref a_po, .int v_giv, .int v_tak, .int v_put])), (a_pi, .inl (tc 1, 1000, .inl v_in))] s.heap.size = A at hD ⊢
  have hZ : ∀ q : Nat, A q → z0 ≤ q := by rw [← hAe]; exact hZ0
  have hA : ∀ q : Nat, s.heap.size ≤ q → A q := fun q h => by rw [← hAe]; exact Or.inr h
  have hS : va_S A s.heap s.heap [] := va_S.rf
  have hl := lv_entry ([.ref a_p, .int x0]) (n := 2) (Nat.le_of_ble_eq_true rfl)
  rw [lg_entry_eq]
  generalize (lg_sl ([.ref a_p, .int x0]) ++ List.replicate (2 - (lg_sl ([.ref a_p, .int x0])).length) Slot.unset).toArray = ls at hl ⊢
  have hl : lv_has ls 2 [(0, .ref a_p), (1, .int x0)] := hl
  refine lv_aload_n hx hb d_Port_give_0 rfl (lv_at hl 0 rfl) ?_
  refine lv_iconst (v := 1) hx hb d_Port_give_1 (by decide) ?_
  refine roVi (As := [.int 1]) (rest := []) ⟨hx, hb, hml, hown, hts⟩ (cc_Ports_hasRoomIn l D tc tb z0 a_p a_pi a_po v_giv v_tak v_put 1) (cwV 1 hts (goodV a_298 a_291 a_292 a_5 a_293) rfl rfl rfl hv_Port_hasRoomIn ⟨Nat.le_of_ble_eq_true rfl, Nat.le_of_ble_eq_true rfl⟩) (hP.sub [0] rfl) hK (hB.kept hS hZ) rfl rfl rfl hl.1 rfl (Nat.le_of_ble_eq_true rfl) d_Port_give_2 ⟨Nat.zero_le _, Nat.zero_le _⟩ ?_
  refine lv_if_eq (tgt := 29) hx hb d_Port_give_5 (by decide) (fun c_5 => ?_) (fun c_5 => ?_)
  · skip
    exact W.vret hx hb hr (fun t ht hW => ⟨⟨(v_in, v_giv), rfl, by rw [cF_Ports_give, if_pos c_5], by rw [ht]; exact hP, va_K.moved hW.alike hK, hD⟩, hS.F ht⟩) hS.2.2 d_Port_give_29
  · skip
    refine lv_aload_n hx hb d_Port_give_8 rfl (lv_at hl 0 rfl) ?_
    refine va_get (D := D) (ci := 3) (v := .ref a_pi) (C := "StepMachine$Ports") (T := TX3) (N := 5) hx hb hts inU_3 hown hK hP 0 rfl rfl 0 (by decide) (hts _ a_63) (fun _ h9 => h9) rfl d_Port_give_9 ?_
    refine lv_aload_n hx hb d_Port_give_12 rfl (lv_at hl 0 rfl) ?_
    refine va_get (D := D) (ci := 3) (v := .int v_giv) (C := "StepMachine$Ports") (T := TX3) (N := 5) hx hb hts inU_3 hown hK hP 0 rfl rfl 2 (by decide) (hts _ a_65) (fun _ h9 => h9) rfl d_Port_give_13 ?_
    refine lv_iload_n hx hb d_Port_give_16 rfl (lv_at hl 1 rfl) ?_
    refine lv_i2b (v := x0.toInt8.toInt32) hx hb d_Port_give_17 rfl ?_
    refine va_bast hx hb hK hP hD hS 1 1 rfl rfl (ob_give hp0 c_5) d_Port_give_18 (fun H locs hP hD hS => ?_)
    have hP : va_P D vwCl [(a_p, .inr (3, [.ref a_pi, .ref a_po, .int v_giv, .int v_tak, .int v_put])), (a_pi, .inl (tc 1, 1000, .inl (upd v_in v_giv.toNatClampNeg (vp_nar .byte x0.toInt8.toInt32))))] H := hP
    have hD : va_D A [(a_p, .inr (3, [.ref a_pi, .ref a_po, .int v_giv, .int v_tak, .int v_put])), (a_pi, .inl (tc 1, 1000, .inl (upd v_in v_giv.toNatClampNeg (vp_nar .byte x0.toInt8.toInt32))))] := hD
    refine lv_aload_n hx hb d_Port_give_19 rfl (lv_at hl 0 rfl) ?_
    refine lv_dup hx hb d_Port_give_20 rfl ?_
    refine va_get (D := D) (ci := 3) (v := .int v_giv) (C := "StepMachine$Ports") (T := TX3) (N := 5) hx hb hts inU_3 hown hK hP 0 rfl rfl 2 (by decide) (hts _ a_65) (fun _ h9 => h9) rfl d_Port_give_21 ?_
    refine lv_iconst (v := 1) hx hb d_Port_give_24 (by decide) ?_
    refine lv_iadd hx hb d_Port_give_25 ?_
    refine va_put (D := D) (ci := 3) (v := .int (v_giv + 1)) (ty := .int) (C := "StepMachine$Ports") (T := TX3) (N := 5) hx hb hts inU_3 tyX3 tyX3_ok nmX3 hown hK hP hD hS 0 rfl rfl 2 (by decide) (hts _ a_65) (fun _ h9 => h9) rfl (by decide +kernel) rfl rfl (Nat.le_of_ble_eq_true rfl) d_Port_give_26 (fun H locs hP hD hS => ?_)
    have hP : va_P D vwCl [(a_p, .inr (3, [.ref a_pi, .ref a_po, .int (v_giv + 1), .int v_tak, .int v_put])), (a_pi, .inl (tc 1, 1000, .inl (upd v_in v_giv.toNatClampNeg (vp_nar .byte x0.toInt8.toInt32))))] H := hP
    have hD : va_D A [(a_p, .inr (3, [.ref a_pi, .ref a_po, .int (v_giv + 1), .int v_tak, .int v_put])), (a_pi, .inl (tc 1, 1000, .inl (upd v_in v_giv.toNatClampNeg (vp_nar .byte x0.toInt8.toInt32))))] := hD
    exact W.vret hx hb hr (fun t ht hW => ⟨⟨((upd v_in v_giv.toNatClampNeg (vp_nar .byte x0.toInt8.toInt32)), (v_giv + 1)), rfl, by rw [cF_Ports_give, if_neg c_5], by rw [ht]; exact hP, va_K.moved hW.alike hK, hD⟩, hS.F ht⟩) hS.2.2 d_Port_give_29
