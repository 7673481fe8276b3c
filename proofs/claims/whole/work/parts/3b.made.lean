set_option maxHeartbeats 4000000 in
set_option maxRecDepth 100000 in
theorem cc_Word_init (l : Launch) (D : va_G) (tc : Nat → ClassId) (tb : Nat → Nat) (z0 : Nat) (sz : Nat) (a_0 : Nat) : Met l y_Word_init (wM y_Word_init b_Word_init 1 none) ({ frames := 1, cells := 0, slots := 0, locals := 24 }) (va_Pc [.ref a_0] (PwN D tc tb z0 [(a_0, .inr (4, [.int 0, .int 0, .int 0, .int 0, .int 0, .int 0]))] sz)) (va_Qv (fun _ : Unit => True) (Bw D tc (va_A [(a_0, .inr (4, [.int 0, .int 0, .int 0, .int 0, .int 0, .int 0]))] sz) (fun u : Unit => [(a_0, .inr (4, [.int 0, .int 0, .int 0, .int 0, .int 0, .int 0]))])) (va_A [(a_0, .inr (4, [.int 0, .int 0, .int 0, .int 0, .int 0, .int 0]))] sz)) 0 0 (va_A [(a_0, .inr (4, [.int 0, .int 0, .int 0, .int 0, .int 0, .int 0]))] sz) := by
  refine Met.ofW (cc := b_Word_init) (maxL := 1) (ret := none) (by decide) rfl ?_
  intro p e s m args below meth c s₁ B hml hv
  obtain ⟨rfl, ⟨hsz, hP, hK, hB, hD0, hZ0⟩, hN⟩ := hv
  have hx := B.exec
  have hb := B.bytes
  have hr := B.returns
  have hts : ∀ w ∈ wALL, w.before _ s = true := fun w h => atoms_spec (ws := (wM y_Word_init b_Word_init 1 none)) B.pre w (List.mem_cons_of_mem _ h)
  have hown : s.vm.findClass "StepMachine$Word" = some m.cls := findClass_of_methodNamed B.named
  have hlocks := B.notSynchronized
  have hin : meth.name = "<init>" := (name_of_methodNamed B.named B.method).1
  subst hsz
  have hD := hD0.self (sz := s.heap.size)
  generalize hAe : va_A [(a_0, .inr (4, [.int 0, .int 0, .int 0, .int 0, .int 0, .int 0]))] s.heap.size = A at hD ⊢
  have hZ : ∀ q : Nat, A q → z0 ≤ q := by rw [← hAe]; exact hZ0
  have hA : ∀ q : Nat, s.heap.size ≤ q → A q := fun q h => by rw [← hAe]; exact Or.inr h
  have hS : va_S A s.heap s.heap [] := va_S.rf
  have hl := lv_entry ([.ref a_0]) (n := 1) (Nat.le_of_ble_eq_true rfl)
  rw [lg_entry_eq]
  generalize (lg_sl ([.ref a_0]) ++ List.replicate (1 - (lg_sl ([.ref a_0])).length) Slot.unset).toArray = ls at hl ⊢
  have hl : lv_has ls 1 [(0, .ref a_0)] := hl
  refine lv_aload_n hx hb d_Word_init_0 rfl (lv_at hl 0 rfl) ?_
  refine W.objInit hx hb hown (hts _ a_131) (hts _ a_21) (hts _ a_22) rfl (by rw [hml]; exact hl.1) rfl d_Word_init_1 (Nat.le_of_ble_eq_true rfl) (Nat.le_of_ble_eq_true rfl) ?_
  refine W.eq (g2 := F0 m 4 ls []) rfl ?_
  exact W.vret hx hb hr (fun t ht hW => ⟨⟨(), rfl, trivial, by rw [ht]; exact hP, va_K.moved hW.alike hK, hD⟩, hS.F ht⟩) hS.2.2 d_Word_init_4
set_option maxHeartbeats 4000000 in
set_option maxRecDepth 100000 in
theorem cc_Kept_init (l : Launch) (D : va_G) (tc : Nat → ClassId) (tb : Nat → Nat) (z0 : Nat) (sz : Nat) (a_0 : Nat) : Met l y_Kept_init (wM y_Kept_init b_Kept_init 1 none) ({ frames := 1, cells := 0, slots := 0, locals := 24 }) (va_Pc [.ref a_0] (PwN D tc tb z0 [(a_0, .inr (5, [.int 0, .int 0, .int 0, .int 0, .int 0, .int 0, .int 0, .int 0, .int 0, .int 0, .int 0, .int 0]))] sz)) (va_Qv (fun _ : Unit => True) (Bw D tc (va_A [(a_0, .inr (5, [.int 0, .int 0, .int 0, .int 0, .int 0, .int 0, .int 0, .int 0, .int 0, .int 0, .int 0, .int 0]))] sz) (fun u : Unit => [(a_0, .inr (5, [.int 0, .int 0, .int 0, .int 0, .int 0, .int 0, .int 0, .int 0, .int 0, .int 0, .int 0, .int 0]))])) (va_A [(a_0, .inr (5, [.int 0, .int 0, .int 0, .int 0, .int 0, .int 0, .int 0, .int 0, .int 0, .int 0, .int 0, .int 0]))] sz)) 0 0 (va_A [(a_0, .inr (5, [.int 0, .int 0, .int 0, .int 0, .int 0, .int 0, .int 0, .int 0, .int 0, .int 0, .int 0, .int 0]))] sz) := by
  refine Met.ofW (cc := b_Kept_init) (maxL := 1) (ret := none) (by decide) rfl ?_
  intro p e s m args below meth c s₁ B hml hv
  obtain ⟨rfl, ⟨hsz, hP, hK, hB, hD0, hZ0⟩, hN⟩ := hv
  have hx := B.exec
  have hb := B.bytes
  have hr := B.returns
  have hts : ∀ w ∈ wALL, w.before _ s = true := fun w h => atoms_spec (ws := (wM y_Kept_init b_Kept_init 1 none)) B.pre w (List.mem_cons_of_mem _ h)
  have hown : s.vm.findClass "StepMachine$Kept" = some m.cls := findClass_of_methodNamed B.named
  have hlocks := B.notSynchronized
  have hin : meth.name = "<init>" := (name_of_methodNamed B.named B.method).1
  subst hsz
  have hD := hD0.self (sz := s.heap.size)
  generalize hAe : va_A [(a_0, .inr (5, [.int 0, .int 0, .int 0, .int 0, .int 0, .int 0, .int 0, .int 0, .int 0, .int 0, .int 0, .int 0]))] s.heap.size = A at hD ⊢
  have hZ : ∀ q : Nat, A q → z0 ≤ q := by rw [← hAe]; exact hZ0
  have hA : ∀ q : Nat, s.heap.size ≤ q → A q := fun q h => by rw [← hAe]; exact Or.inr h
  have hS : va_S A s.heap s.heap [] := va_S.rf
  have hl := lv_entry ([.ref a_0]) (n := 1) (Nat.le_of_ble_eq_true rfl)
  rw [lg_entry_eq]
  generalize (lg_sl ([.ref a_0]) ++ List.replicate (1 - (lg_sl ([.ref a_0])).length) Slot.unset).toArray = ls at hl ⊢
  have hl : lv_has ls 1 [(0, .ref a_0)] := hl
  refine lv_aload_n hx hb d_Kept_init_0 rfl (lv_at hl 0 rfl) ?_
  refine W.objInit hx hb hown (hts _ a_89) (hts _ a_21) (hts _ a_22) rfl (by rw [hml]; exact hl.1) rfl d_Kept_init_1 (Nat.le_of_ble_eq_true rfl) (Nat.le_of_ble_eq_true rfl) ?_
  refine W.eq (g2 := F0 m 4 ls []) rfl ?_
  exact W.vret hx hb hr (fun t ht hW => ⟨⟨(), rfl, trivial, by rw [ht]; exact hP, va_K.moved hW.alike hK, hD⟩, hS.F ht⟩) hS.2.2 d_Kept_init_4
set_option maxHeartbeats 4000000 in
set_option maxRecDepth 100000 in
theorem cc_Halts_init (l : Launch) (D : va_G) (tc : Nat → ClassId) (tb : Nat → Nat) (z0 : Nat) (sz : Nat) (a_0 : Nat) : Met l y_Halt_init (wM y_Halt_init b_Halt_init 1 none) ({ frames := 1, cells := 1, slots := 8, locals := 24 }) (va_Pc [.ref a_0] (PwN D tc tb z0 [(a_0, .inr (2, [.null, .int 0]))] sz)) (va_Qv (fun _ : Nat => True) (Bw D tc (va_A [(a_0, .inr (2, [.null, .int 0]))] sz) (fun u : Nat => [(a_0, .inr (2, [.ref u, .int 0])), (u, .inl (tc 0, 8, .inl (fun _ => 0)))])) (va_A [(a_0, .inr (2, [.null, .int 0]))] sz)) 1 8 (va_A [(a_0, .inr (2, [.null, .int 0]))] sz) := by
  refine Met.ofW (cc := b_Halt_init) (maxL := 1) (ret := none) (by decide) rfl ?_
  intro p e s m args below meth c s₁ B hml hv
  obtain ⟨rfl, ⟨hsz, hP, hK, hB, hD0, hZ0⟩, hN⟩ := hv
  have hx := B.exec
  have hb := B.bytes
  have hr := B.returns
  have hts : ∀ w ∈ wALL, w.before _ s = true := fun w h => atoms_spec (ws := (wM y_Halt_init b_Halt_init 1 none)) B.pre w (List.mem_cons_of_mem _ h)
  have hown : s.vm.findClass "StepMachine$Halts" = some m.cls := findClass_of_methodNamed B.named
  have hlocks := B.notSynchronized
  have hin : meth.name = "<init>" := (name_of_methodNamed B.named B.method).1
  subst hsz
  have hD := hD0.self (sz := s.heap.size)
  generalize hAe : va_A [(a_0, .inr (2, [.null, .int 0]))] s.heap.size = A at hD ⊢
  have hZ : ∀ q : Nat, A q → z0 ≤ q := by rw [← hAe]; exact hZ0
  have hA : ∀ q : Nat, s.heap.size ≤ q → A q := fun q h => by rw [← hAe]; exact Or.inr h
  have hS : va_S A s.heap s.heap [] := va_S.rf
  have hl := lv_entry ([.ref a_0]) (n := 1) (Nat.le_of_ble_eq_true rfl)
  rw [lg_entry_eq]
  generalize (lg_sl ([.ref a_0]) ++ List.replicate (1 - (lg_sl ([.ref a_0])).length) Slot.unset).toArray = ls at hl ⊢
  have hl : lv_has ls 1 [(0, .ref a_0)] := hl
  refine lv_aload_n hx hb d_Halt_init_0 rfl (lv_at hl 0 rfl) ?_
  refine W.objInit hx hb hown (hts _ a_52) (hts _ a_21) (hts _ a_22) rfl (by rw [hml]; exact hl.1) rfl d_Halt_init_1 (Nat.le_of_ble_eq_true rfl) (Nat.le_of_ble_eq_true rfl) ?_
  refine W.eq (g2 := F0 m 4 ls []) rfl ?_
  refine lv_aload_n hx hb d_Halt_init_4 rfl (lv_at hl 0 rfl) ?_
  refine lv_bipush (v := 8) hx hb d_Halt_init_5 (by decide) ?_
  refine va_newa (atype := .int) (ty := .int) (n := 8) (a0 := (8, .inl (fun _ => 0))) hx hb (hts _ a_31) rfl hK hP hD hS hA (cell0_i 8) (by decide) (N' := 8) (by decide) (by decide) (Nat.le_of_ble_eq_true rfl) (Nat.le_of_ble_eq_true rfl) d_Halt_init_7 (fun n_7 cA H hKn hP hD hS => ?_)
  obtain rfl := cls_eq (k := 0) (c0 := tc 0) hKn rfl (fun _ h => h)
  have hP : va_P D vwCl [(a_0, .inr (2, [.null, .int 0])), (n_7, .inl (tc 0, 8, .inl (fun _ => 0)))] H := hP
  have hD : va_D A [(a_0, .inr (2, [.null, .int 0])), (n_7, .inl (tc 0, 8, .inl (fun _ => 0)))] := hD
  refine W.widen (k := 1) (n := 8) (by omega) (by omega) ?_
  refine va_putF (D := D) (ci := 2) (v := .ref n_7) (ty := .array .int) (C := "StepMachine$Halts") (T := TX2) (N := 2) hx hb hts inU_2 tyX2 tyX2_ok nmX2 hown hK hP hD hS 0 rfl rfl 0 (by decide) (hts _ a_53) (fun _ h9 => h9) rfl hin rfl (by decide +kernel) rfl rfl (Nat.le_of_ble_eq_true rfl) d_Halt_init_9 (fun H locs hP hD hS => ?_)
  have hP : va_P D vwCl [(a_0, .inr (2, [.ref n_7, .int 0])), (n_7, .inl (tc 0, 8, .inl (fun _ => 0)))] H := hP
  have hD : va_D A [(a_0, .inr (2, [.ref n_7, .int 0])), (n_7, .inl (tc 0, 8, .inl (fun _ => 0)))] := hD
  exact W.vret hx hb hr (fun t ht hW => ⟨⟨n_7, rfl, trivial, by rw [ht]; exact hP, va_K.moved hW.alike hK, hD⟩, hS.F ht⟩) hS.2.2 d_Halt_init_12
set_option maxHeartbeats 4000000 in
set_option maxRecDepth 100000 in
theorem cc_Guard_init (l : Launch) (D : va_G) (tc : Nat → ClassId) (tb : Nat → Nat) (z0 : Nat) (sz : Nat) (a_0 : Nat) : Met l y_Guar_init (wM y_Guar_init b_Guar_init 1 none) ({ frames := 1, cells := 4, slots := 2072, locals := 24 }) (va_Pc [.ref a_0] (PwN D tc tb z0 [(a_0, .inr (1, [.null, .null, .null, .null, .int 0]))] sz)) (va_Qv (fun _ : Nat × Nat × Nat × Nat => True) (Bw D tc (va_A [(a_0, .inr (1, [.null, .null, .null, .null, .int 0]))] sz) (fun u : Nat × Nat × Nat × Nat => [(a_0, .inr (1, [.ref u.1, .ref u.2.1, .ref u.2.2.1, .ref u.2.2.2, .int 0])), (u.1, .inl (tc 0, 8, .inl (fun _ => 0))), (u.2.1, .inl (tc 0, 8, .inl (fun _ => 0))), (u.2.2.1, .inl (tc 0, 8, .inl (fun _ => 0))), (u.2.2.2, .inl (tc 0, 2048, .inl (fun _ => 0)))])) (va_A [(a_0, .inr (1, [.null, .null, .null, .null, .int 0]))] sz)) 4 2072 (va_A [(a_0, .inr (1, [.null, .null, .null, .null, .int 0]))] sz) := by
  refine Met.ofW (cc := b_Guar_init) (maxL := 1) (ret := none) (by decide) rfl ?_
  intro p e s m args below meth c s₁ B hml hv
  obtain ⟨rfl, ⟨hsz, hP, hK, hB, hD0, hZ0⟩, hN⟩ := hv
  have hx := B.exec
  have hb := B.bytes
  have hr := B.returns
  have hts : ∀ w ∈ wALL, w.before _ s = true := fun w h => atoms_spec (ws := (wM y_Guar_init b_Guar_init 1 none)) B.pre w (List.mem_cons_of_mem _ h)
  have hown : s.vm.findClass "StepMachine$Guard" = some m.cls := findClass_of_methodNamed B.named
  have hlocks := B.notSynchronized
  have hin : meth.name = "<init>" := (name_of_methodNamed B.named B.method).1
  subst hsz
  have hD := hD0.self (sz := s.heap.size)
  generalize hAe : va_A [(a_0, .inr (1, [.null, .null, .null, .null, .int 0]))] s.heap.size = A at hD ⊢
  have hZ : ∀ q : Nat, A q → z0 ≤ q := by rw [← hAe]; exact hZ0
  have hA : ∀ q : Nat, s.heap.size ≤ q → A q := fun q h => by rw [← hAe]; exact Or.inr h
  have hS : va_S A s.heap s.heap [] := va_S.rf
  have hl := lv_entry ([.ref a_0]) (n := 1) (Nat.le_of_ble_eq_true rfl)
  rw [lg_entry_eq]
  generalize (lg_sl ([.ref a_0]) ++ List.replicate (1 - (lg_sl ([.ref a_0])).length) Slot.unset).toArray = ls at hl ⊢
  have hl : lv_has ls 1 [(0, .ref a_0)] := hl
  refine lv_aload_n hx hb d_Guar_init_0 rfl (lv_at hl 0 rfl) ?_
  refine W.objInit hx hb hown (hts _ a_36) (hts _ a_21) (hts _ a_22) rfl (by rw [hml]; exact hl.1) rfl d_Guar_init_1 (Nat.le_of_ble_eq_true rfl) (Nat.le_of_ble_eq_true rfl) ?_
  refine W.eq (g2 := F0 m 4 ls []) rfl ?_
  refine lv_aload_n hx hb d_Guar_init_4 rfl (lv_at hl 0 rfl) ?_
  refine lv_bipush (v := 8) hx hb d_Guar_init_5 (by decide) ?_
  refine va_newa (atype := .int) (ty := .int) (n := 8) (a0 := (8, .inl (fun _ => 0))) hx hb (hts _ a_31) rfl hK hP hD hS hA (cell0_i 8) (by decide) (N' := 8) (by decide) (by decide) (Nat.le_of_ble_eq_true rfl) (Nat.le_of_ble_eq_true rfl) d_Guar_init_7 (fun n_7 cA H hKn hP hD hS => ?_)
  obtain rfl := cls_eq (k := 0) (c0 := tc 0) hKn rfl (fun _ h => h)
  have hP : va_P D vwCl [(a_0, .inr (1, [.null, .null, .null, .null, .int 0])), (n_7, .inl (tc 0, 8, .inl (fun _ => 0)))] H := hP
  have hD : va_D A [(a_0, .inr (1, [.null, .null, .null, .null, .int 0])), (n_7, .inl (tc 0, 8, .inl (fun _ => 0)))] := hD
  refine W.widen (k := 1) (n := 8) (by omega) (by omega) ?_
  refine va_putF (D := D) (ci := 1) (v := .ref n_7) (ty := .array .int) (C := "StepMachine$Guard") (T := TX1) (N := 5) hx hb hts inU_1 tyX1 tyX1_ok nmX1 hown hK hP hD hS 0 rfl rfl 0 (by decide) (hts _ a_37) (fun _ h9 => h9) rfl hin rfl (by decide +kernel) rfl rfl (Nat.le_of_ble_eq_true rfl) d_Guar_init_9 (fun H locs hP hD hS => ?_)
  have hP : va_P D vwCl [(a_0, .inr (1, [.ref n_7, .null, .null, .null, .int 0])), (n_7, .inl (tc 0, 8, .inl (fun _ => 0)))] H := hP
  have hD : va_D A [(a_0, .inr (1, [.ref n_7, .null, .null, .null, .int 0])), (n_7, .inl (tc 0, 8, .inl (fun _ => 0)))] := hD
  refine lv_aload_n hx hb d_Guar_init_12 rfl (lv_at hl 0 rfl) ?_
  refine lv_bipush (v := 8) hx hb d_Guar_init_13 (by decide) ?_
  refine va_newa (atype := .int) (ty := .int) (n := 8) (a0 := (8, .inl (fun _ => 0))) hx hb (hts _ a_31) rfl hK hP hD hS hA (cell0_i 8) (by decide) (N' := 8) (by decide) (by decide) (Nat.le_of_ble_eq_true rfl) (Nat.le_of_ble_eq_true rfl) d_Guar_init_15 (fun n_15 cA H hKn hP hD hS => ?_)
  obtain rfl := cls_eq (k := 0) (c0 := tc 0) hKn rfl (fun _ h => h)
  have hP : va_P D vwCl [(a_0, .inr (1, [.ref n_7, .null, .null, .null, .int 0])), (n_7, .inl (tc 0, 8, .inl (fun _ => 0))), (n_15, .inl (tc 0, 8, .inl (fun _ => 0)))] H := hP
  have hD : va_D A [(a_0, .inr (1, [.ref n_7, .null, .null, .null, .int 0])), (n_7, .inl (tc 0, 8, .inl (fun _ => 0))), (n_15, .inl (tc 0, 8, .inl (fun _ => 0)))] := hD
  refine W.widen (k := 2) (n := 16) (by omega) (by omega) ?_
  refine va_putF (D := D) (ci := 1) (v := .ref n_15) (ty := .array .int) (C := "StepMachine$Guard") (T := TX1) (N := 5) hx hb hts inU_1 tyX1 tyX1_ok nmX1 hown hK hP hD hS 0 rfl rfl 1 (by decide) (hts _ a_38) (fun _ h9 => h9) rfl hin rfl (by decide +kernel) rfl rfl (Nat.le_of_ble_eq_true rfl) d_Guar_init_17 (fun H locs hP hD hS => ?_)
  have hP : va_P D vwCl [(a_0, .inr (1, [.ref n_7, .ref n_15, .null, .null, .int 0])), (n_7, .inl (tc 0, 8, .inl (fun _ => 0))), (n_15, .inl (tc 0, 8, .inl (fun _ => 0)))] H := hP
  have hD : va_D A [(a_0, .inr (1, [.ref n_7, .ref n_15, .null, .null, .int 0])), (n_7, .inl (tc 0, 8, .inl (fun _ => 0))), (n_15, .inl (tc 0, 8, .inl (fun _ => 0)))] := hD
  refine lv_aload_n hx hb d_Guar_init_20 rfl (lv_at hl 0 rfl) ?_
  refine lv_bipush (v := 8) hx hb d_Guar_init_21 (by decide) ?_
  refine va_newa (atype := .int) (ty := .int) (n := 8) (a0 := (8, .inl (fun _ => 0))) hx hb (hts _ a_31) rfl hK hP hD hS hA (cell0_i 8) (by decide) (N' := 8) (by decide) (by decide) (Nat.le_of_ble_eq_true rfl) (Nat.le_of_ble_eq_true rfl) d_Guar_init_23 (fun n_23 cA H hKn hP hD hS => ?_)
  obtain rfl := cls_eq (k := 0) (c0 := tc 0) hKn rfl (fun _ h => h)
  have hP : va_P D vwCl [(a_0, .inr (1, [.ref n_7, .ref n_15, .null, .null, .int 0])), (n_7, .inl (tc 0, 8, .inl (fun _ => 0))), (n_15, .inl (tc 0, 8, .inl (fun _ => 0))), (n_23, .inl (tc 0, 8, .inl (fun _ => 0)))] H := hP
  have hD : va_D A [(a_0, .inr (1, [.ref n_7, .ref n_15, .null, .null, .int 0])), (n_7, .inl (tc 0, 8, .inl (fun _ => 0))), (n_15, .inl (tc 0, 8, .inl (fun _ => 0))), (n_23, .inl (tc 0, 8, .inl (fun _ => 0)))] := hD
  refine W.widen (k := 3) (n := 24) (by omega) (by omega) ?_
  refine va_putF (D := D) (ci := 1) (v := .ref n_23) (ty := .array .int) (C := "StepMachine$Guard") (T := TX1) (N := 5) hx hb hts inU_1 tyX1 tyX1_ok nmX1 hown hK hP hD hS 0 rfl rfl 2 (by decide) (hts _ a_39) (fun _ h9 => h9) rfl hin rfl (by decide +kernel) rfl rfl (Nat.le_of_ble_eq_true rfl) d_Guar_init_25 (fun H locs hP hD hS => ?_)
  have hP : va_P D vwCl [(a_0, .inr (1, [.ref n_7, .ref n_15, .ref n_23, .null, .int 0])), (n_7, .inl (tc 0, 8, .inl (fun _ => 0))), (n_15, .inl (tc 0, 8, .inl (fun _ => 0))), (n_23, .inl (tc 0, 8, .inl (fun _ => 0)))] H := hP
  have hD : va_D A [(a_0, .inr (1, [.ref n_7, .ref n_15, .ref n_23, .null, .int 0])), (n_7, .inl (tc 0, 8, .inl (fun _ => 0))), (n_15, .inl (tc 0, 8, .inl (fun _ => 0))), (n_23, .inl (tc 0, 8, .inl (fun _ => 0)))] := hD
  refine lv_aload_n hx hb d_Guar_init_28 rfl (lv_at hl 0 rfl) ?_
  refine lv_sipush (v := 2048) hx hb d_Guar_init_29 (by decide) ?_
  refine va_newa (atype := .int) (ty := .int) (n := 2048) (a0 := (2048, .inl (fun _ => 0))) hx hb (hts _ a_31) rfl hK hP hD hS hA (cell0_i 2048) (by decide) (N' := 2048) (by decide) (by decide) (Nat.le_of_ble_eq_true rfl) (Nat.le_of_ble_eq_true rfl) d_Guar_init_32 (fun n_32 cA H hKn hP hD hS => ?_)
  obtain rfl := cls_eq (k := 0) (c0 := tc 0) hKn rfl (fun _ h => h)
  have hP : va_P D vwCl [(a_0, .inr (1, [.ref n_7, .ref n_15, .ref n_23, .null, .int 0])), (n_7, .inl (tc 0, 8, .inl (fun _ => 0))), (n_15, .inl (tc 0, 8, .inl (fun _ => 0))), (n_23, .inl (tc 0, 8, .inl (fun _ => 0))), (n_32, .inl (tc 0, 2048, .inl (fun _ => 0)))] H := hP
  have hD : va_D A [(a_0, .inr (1, [.ref n_7, .ref n_15, .ref n_23, .null, .int 0])), (n_7, .inl (tc 0, 8, .inl (fun _ => 0))), (n_15, .inl (tc 0, 8, .inl (fun _ => 0))), (n_23, .inl (tc 0, 8, .inl (fun _ => 0))), (n_32, .inl (tc 0, 2048, .inl (fun _ => 0)))] := hD
  refine W.widen (k := 4) (n := 2072) (by omega) (by omega) ?_
  refine va_putF (D := D) (ci := 1) (v := .ref n_32) (ty := .array .int) (C := "StepMachine$Guard") (T := TX1) (N := 5) hx hb hts inU_1 tyX1 tyX1_ok nmX1 hown hK hP hD hS 0 rfl rfl 3 (by decide) (hts _ a_40) (fun _ h9 => h9) rfl hin rfl (by decide +kernel) rfl rfl (Nat.le_of_ble_eq_true rfl) d_Guar_init_34 (fun H locs hP hD hS => ?_)
  have hP : va_P D vwCl [(a_0, .inr (1, [.ref n_7, .ref n_15, .ref n_23, .ref n_32, .int 0])), (n_7, .inl (tc 0, 8, .inl (fun _ => 0))), (n_15, .inl (tc 0, 8, .inl (fun _ => 0))), (n_23, .inl (tc 0, 8, .inl (fun _ => 0))), (n_32, .inl (tc 0, 2048, .inl (fun _ => 0)))] H := hP
  have hD : va_D A [(a_0, .inr (1, [.ref n_7, .ref n_15, .ref n_23, .ref n_32, .int 0])), (n_7, .inl (tc 0, 8, .inl (fun _ => 0))), (n_15, .inl (tc 0, 8, .inl (fun _ => 0))), (n_23, .inl (tc 0, 8, .inl (fun _ => 0))), (n_32, .inl (tc 0, 2048, .inl (fun _ => 0)))] := hD
  exact W.vret hx hb hr (fun t ht hW => ⟨⟨(n_7, n_15, n_23, n_32), rfl, trivial, by rw [ht]; exact hP, va_K.moved hW.alike hK, hD⟩, hS.F ht⟩) hS.2.2 d_Guar_init_37
set_option maxHeartbeats 4000000 in
set_option maxRecDepth 100000 in
theorem cc_Ports_init (l : Launch) (D : va_G) (tc : Nat → ClassId) (tb : Nat → Nat) (z0 : Nat) (sz : Nat) (a_0 : Nat) : Met l y_Port_init (wM y_Port_init b_Port_init 1 none) ({ frames := 1, cells := 2, slots := 3000, locals := 24 }) (va_Pc [.ref a_0] (PwN D tc tb z0 [(a_0, .inr (3, [.null, .null, .int 0, .int 0, .int 0]))] sz)) (va_Qv (fun _ : Nat × Nat => True) (Bw D tc (va_A [(a_0, .inr (3, [.null, .null, .int 0, .int 0, .int 0]))] sz) (fun u : Nat × Nat => [(a_0, .inr (3, [.ref u.1, .ref u.2, .int 0, .int 0, .int 0])), (u.1, .inl (tc 1, 1000, .inl (fun _ => 0))), (u.2, .inl (tc 1, 2000, .inl (fun _ => 0)))])) (va_A [(a_0, .inr (3, [.null, .null, .int 0, .int 0, .int 0]))] sz)) 2 3000 (va_A [(a_0, .inr (3, [.null, .null, .int 0, .int 0, .int 0]))] sz) := by
  refine Met.ofW (cc := b_Port_init) (maxL := 1) (ret := none) (by decide) rfl ?_
  intro p e s m args below meth c s₁ B hml hv
  obtain ⟨rfl, ⟨hsz, hP, hK, hB, hD0, hZ0⟩, hN⟩ := hv
  have hx := B.exec
  have hb := B.bytes
  have hr := B.returns
  have hts : ∀ w ∈ wALL, w.before _ s = true := fun w h => atoms_spec (ws := (wM y_Port_init b_Port_init 1 none)) B.pre w (List.mem_cons_of_mem _ h)
  have hown : s.vm.findClass "StepMachine$Ports" = some m.cls := findClass_of_methodNamed B.named
  have hlocks := B.notSynchronized
  have hin : meth.name = "<init>" := (name_of_methodNamed B.named B.method).1
  subst hsz
  have hD := hD0.self (sz := s.heap.size)
  generalize hAe : va_A [(a_0, .inr (3, [.null, .null, .int 0, .int 0, .int 0]))] s.heap.size = A at hD ⊢
  have hZ : ∀ q : Nat, A q → z0 ≤ q := by rw [← hAe]; exact hZ0
  have hA : ∀ q : Nat, s.heap.size ≤ q → A q := fun q h => by rw [← hAe]; exact Or.inr h
  have hS : va_S A s.heap s.heap [] := va_S.rf
  have hl := lv_entry ([.ref a_0]) (n := 1) (Nat.le_of_ble_eq_true rfl)
  rw [lg_entry_eq]
  generalize (lg_sl ([.ref a_0]) ++ List.replicate (1 - (lg_sl ([.ref a_0])).length) Slot.unset).toArray = ls at hl ⊢
  have hl : lv_has ls 1 [(0, .ref a_0)] := hl
  refine lv_aload_n hx hb d_Port_init_0 rfl (lv_at hl 0 rfl) ?_
  refine W.objInit hx hb hown (hts _ a_62) (hts _ a_21) (hts _ a_22) rfl (by rw [hml]; exact hl.1) rfl d_Port_init_1 (Nat.le_of_ble_eq_true rfl) (Nat.le_of_ble_eq_true rfl) ?_
  refine W.eq (g2 := F0 m 4 ls []) rfl ?_
  refine lv_aload_n hx hb d_Port_init_4 rfl (lv_at hl 0 rfl) ?_
  refine lv_sipush (v := 1000) hx hb d_Port_init_5 (by decide) ?_
  refine va_newa (atype := .byte) (ty := .byte) (n := 1000) (a0 := (1000, .inl (fun _ => 0))) hx hb (hts _ a_78) rfl hK hP hD hS hA (cell0_b 1000) (by decide) (N' := 1000) (by decide) (by decide) (Nat.le_of_ble_eq_true rfl) (Nat.le_of_ble_eq_true rfl) d_Port_init_8 (fun n_8 cA H hKn hP hD hS => ?_)
  obtain rfl := cls_eq (k := 1) (c0 := tc 1) hKn rfl (fun _ h => h)
  have hP : va_P D vwCl [(a_0, .inr (3, [.null, .null, .int 0, .int 0, .int 0])), (n_8, .inl (tc 1, 1000, .inl (fun _ => 0)))] H := hP
  have hD : va_D A [(a_0, .inr (3, [.null, .null, .int 0, .int 0, .int 0])), (n_8, .inl (tc 1, 1000, .inl (fun _ => 0)))] := hD
  refine W.widen (k := 1) (n := 1000) (by omega) (by omega) ?_
  refine va_putF (D := D) (ci := 3) (v := .ref n_8) (ty := .array .byte) (C := "StepMachine$Ports") (T := TX3) (N := 5) hx hb hts inU_3 tyX3 tyX3_ok nmX3 hown hK hP hD hS 0 rfl rfl 0 (by decide) (hts _ a_63) (fun _ h9 => h9) rfl hin rfl (by decide +kernel) rfl rfl (Nat.le_of_ble_eq_true rfl) d_Port_init_10 (fun H locs hP hD hS => ?_)
  have hP : va_P D vwCl [(a_0, .inr (3, [.ref n_8, .null, .int 0, .int 0, .int 0])), (n_8, .inl (tc 1, 1000, .inl (fun _ => 0)))] H := hP
  have hD : va_D A [(a_0, .inr (3, [.ref n_8, .null, .int 0, .int 0, .int 0])), (n_8, .inl (tc 1, 1000, .inl (fun _ => 0)))] := hD
  refine lv_aload_n hx hb d_Port_init_13 rfl (lv_at hl 0 rfl) ?_
  refine lv_sipush (v := 2000) hx hb d_Port_init_14 (by decide) ?_
  refine va_newa (atype := .byte) (ty := .byte) (n := 2000) (a0 := (2000, .inl (fun _ => 0))) hx hb (hts _ a_78) rfl hK hP hD hS hA (cell0_b 2000) (by decide) (N' := 2000) (by decide) (by decide) (Nat.le_of_ble_eq_true rfl) (Nat.le_of_ble_eq_true rfl) d_Port_init_17 (fun n_17 cA H hKn hP hD hS => ?_)
  obtain rfl := cls_eq (k := 1) (c0 := tc 1) hKn rfl (fun _ h => h)
  have hP : va_P D vwCl [(a_0, .inr (3, [.ref n_8, .null, .int 0, .int 0, .int 0])), (n_8, .inl (tc 1, 1000, .inl (fun _ => 0))), (n_17, .inl (tc 1, 2000, .inl (fun _ => 0)))] H := hP
  have hD : va_D A [(a_0, .inr (3, [.ref n_8, .null, .int 0, .int 0, .int 0])), (n_8, .inl (tc 1, 1000, .inl (fun _ => 0))), (n_17, .inl (tc 1, 2000, .inl (fun _ => 0)))] := hD
  refine W.widen (k := 2) (n := 3000) (by omega) (by omega) ?_
  refine va_putF (D := D) (ci := 3) (v := .ref n_17) (ty := .array .byte) (C := "StepMachine$Ports") (T := TX3) (N := 5) hx hb hts inU_3 tyX3 tyX3_ok nmX3 hown hK hP hD hS 0 rfl rfl 1 (by decide) (hts _ a_64) (fun _ h9 => h9) rfl hin rfl (by decide +kernel) rfl rfl (Nat.le_of_ble_eq_true rfl) d_Port_init_19 (fun H locs hP hD hS => ?_)
  have hP : va_P D vwCl [(a_0, .inr (3, [.ref n_8, .ref n_17, .int 0, .int 0, .int 0])), (n_8, .inl (tc 1, 1000, .inl (fun _ => 0))), (n_17, .inl (tc 1, 2000, .inl (fun _ => 0)))] H := hP
  have hD : va_D A [(a_0, .inr (3, [.ref n_8, .ref n_17, .int 0, .int 0, .int 0])), (n_8, .inl (tc 1, 1000, .inl (fun _ => 0))), (n_17, .inl (tc 1, 2000, .inl (fun _ => 0)))] := hD
  exact W.vret hx hb hr (fun t ht hW => ⟨⟨(n_8, n_17), rfl, trivial, by rw [ht]; exact hP, va_K.moved hW.alike hK, hD⟩, hS.F ht⟩) hS.2.2 d_Port_init_22
set_option maxHeartbeats 4000000 in
set_option maxRecDepth 100000 in
theorem cc_Memory_init (l : Launch) (D : va_G) (tc : Nat → ClassId) (tb : Nat → Nat) (z0 : Nat) (sz : Nat) (a_0 : Nat) : Met l y_Memo_init (wM y_Memo_init b_Memo_init 1 none) ({ frames := 1, cells := 1, slots := 32768, locals := 24 }) (va_Pc [.ref a_0] (PwN D tc tb z0 [(a_0, .inr (0, [.null]))] sz)) (va_Qv (fun _ : Nat => True) (Bw D tc (va_A [(a_0, .inr (0, [.null]))] sz) (fun u : Nat => [(a_0, .inr (0, [.ref u])), (u, .inl (tc 0, 32768, .inl (fun _ => 0)))])) (va_A [(a_0, .inr (0, [.null]))] sz)) 1 32768 (va_A [(a_0, .inr (0, [.null]))] sz) := by
  refine Met.ofW (cc := b_Memo_init) (maxL := 1) (ret := none) (by decide) rfl ?_
  intro p e s m args below meth c s₁ B hml hv
  obtain ⟨rfl, ⟨hsz, hP, hK, hB, hD0, hZ0⟩, hN⟩ := hv
  have hx := B.exec
  have hb := B.bytes
  have hr := B.returns
  have hts : ∀ w ∈ wALL, w.before _ s = true := fun w h => atoms_spec (ws := (wM y_Memo_init b_Memo_init 1 none)) B.pre w (List.mem_cons_of_mem _ h)
  have hown : s.vm.findClass "StepMachine$Memory" = some m.cls := findClass_of_methodNamed B.named
  have hlocks := B.notSynchronized
  have hin : meth.name = "<init>" := (name_of_methodNamed B.named B.method).1
  subst hsz
  have hD := hD0.self (sz := s.heap.size)
  generalize hAe : va_A [(a_0, .inr (0, [.null]))] s.heap.size = A at hD ⊢
  have hZ : ∀ q : Nat, A q → z0 ≤ q := by rw [← hAe]; exact hZ0
  have hA : ∀ q : Nat, s.heap.size ≤ q → A q := fun q h => by rw [← hAe]; exact Or.inr h
  have hS : va_S A s.heap s.heap [] := va_S.rf
  have hl := lv_entry ([.ref a_0]) (n := 1) (Nat.le_of_ble_eq_true rfl)
  rw [lg_entry_eq]
  generalize (lg_sl ([.ref a_0]) ++ List.replicate (1 - (lg_sl ([.ref a_0])).length) Slot.unset).toArray = ls at hl ⊢
  have hl : lv_has ls 1 [(0, .ref a_0)] := hl
  refine lv_aload_n hx hb d_Memo_init_0 rfl (lv_at hl 0 rfl) ?_
  refine W.objInit hx hb hown (hts _ a_27) (hts _ a_21) (hts _ a_22) rfl (by rw [hml]; exact hl.1) rfl d_Memo_init_1 (Nat.le_of_ble_eq_true rfl) (Nat.le_of_ble_eq_true rfl) ?_
  refine W.eq (g2 := F0 m 4 ls []) rfl ?_
  refine lv_aload_n hx hb d_Memo_init_4 rfl (lv_at hl 0 rfl) ?_
  refine lv_ldc (v := 32768) hx hb hown (hts _ a_28) d_Memo_init_5 ?_
  refine va_newa (atype := .int) (ty := .int) (n := 32768) (a0 := (32768, .inl (fun _ => 0))) hx hb (hts _ a_31) rfl hK hP hD hS hA (cell0_i 32768) (by decide) (N' := 32768) (by decide) (by decide) (Nat.le_of_ble_eq_true rfl) (Nat.le_of_ble_eq_true rfl) d_Memo_init_7 (fun n_7 cA H hKn hP hD hS => ?_)
  obtain rfl := cls_eq (k := 0) (c0 := tc 0) hKn rfl (fun _ h => h)
  have hP : va_P D vwCl [(a_0, .inr (0, [.null])), (n_7, .inl (tc 0, 32768, .inl (fun _ => 0)))] H := hP
  have hD : va_D A [(a_0, .inr (0, [.null])), (n_7, .inl (tc 0, 32768, .inl (fun _ => 0)))] := hD
  refine W.widen (k := 1) (n := 32768) (by omega) (by omega) ?_
  refine va_putF (D := D) (ci := 0) (v := .ref n_7) (ty := .array .int) (C := "StepMachine$Memory") (T := TX0) (N := 1) hx hb hts inU_0 tyX0 tyX0_ok nmX0 hown hK hP hD hS 0 rfl rfl 0 (by decide) (hts _ a_29) (fun _ h9 => h9) rfl hin rfl (by decide +kernel) rfl rfl (Nat.le_of_ble_eq_true rfl) d_Memo_init_9 (fun H locs hP hD hS => ?_)
  have hP : va_P D vwCl [(a_0, .inr (0, [.ref n_7])), (n_7, .inl (tc 0, 32768, .inl (fun _ => 0)))] H := hP
  have hD : va_D A [(a_0, .inr (0, [.ref n_7])), (n_7, .inl (tc 0, 32768, .inl (fun _ => 0)))] := hD
  exact W.vret hx hb hr (fun t ht hW => ⟨⟨n_7, rfl, trivial, by rw [ht]; exact hP, va_K.moved hW.alike hK, hD⟩, hS.F ht⟩) hS.2.2 d_Memo_init_12
set_option maxHeartbeats 4000000 in
set_option maxRecDepth 100000 in
theorem cc_Core_init (l : Launch) (D : va_G) (tc : Nat → ClassId) (tb : Nat → Nat) (z0 : Nat) (sz : Nat) (a_0 : Nat) (a_m a_g a_p a_t : Nat) : Met l y_Core_init (wM y_Core_init b_Core_init 5 none) ({ frames := 2, cells := 2, slots := 38, locals := 44 }) (va_Pc [.ref a_0, .ref a_m, .ref a_g, .ref a_p, .ref a_t] (PwN D tc tb z0 [(a_0, .inr (7, [.null, .null, .null, .null, .null, .null, .int 0, .int 0, .int 0, .int 0, .int 0, .int 0]))] sz)) (va_Qv (fun _ : Nat × Nat => True) (Bw D tc (va_A [(a_0, .inr (7, [.null, .null, .null, .null, .null, .null, .int 0, .int 0, .int 0, .int 0, .int 0, .int 0]))] sz) (fun u : Nat × Nat => [(a_0, .inr (7, [.ref a_m, .ref a_g, .ref a_p, .ref a_t, .ref u.1, .ref u.2, .int 0, .int 0, .int 0, .int 0, .int 0, .int 0])), (u.1, .inr (4, [.int 0, .int 0, .int 0, .int 0, .int 0, .int 0])), (u.2, .inl (tc 0, 32, .inl (fun _ => 0)))])) (va_A [(a_0, .inr (7, [.null, .null, .null, .null, .null, .null, .int 0, .int 0, .int 0, .int 0, .int 0, .int 0]))] sz)) 2 38 (va_A [(a_0, .inr (7, [.null, .null, .null, .null, .null, .null, .int 0, .int 0, .int 0, .int 0, .int 0, .int 0]))] sz) := by
  refine Met.ofW (cc := b_Core_init) (maxL := 5) (ret := none) (by decide) rfl ?_
  intro p e s m args below meth c s₁ B hml hv
  obtain ⟨rfl, ⟨hsz, hP, hK, hB, hD0, hZ0⟩, hN⟩ := hv
  have hx := B.exec
  have hb := B.bytes
  have hr := B.returns
  have hts : ∀ w ∈ wALL, w.before _ s = true := fun w h => atoms_spec (ws := (wM y_Core_init b_Core_init 5 none)) B.pre w (List.mem_cons_of_mem _ h)
  have hown : s.vm.findClass "StepMachine$Core" = some m.cls := findClass_of_methodNamed B.named
  have hlocks := B.notSynchronized
  have hin : meth.name = "<init>" := (name_of_methodNamed B.named B.method).1
  subst hsz
  have hD := hD0.self (sz := s.heap.size)
  generalize hAe : va_A [(a_0, .inr (7, [.null, .null, .null, .null, .null, .null, .int 0, .int 0, .int 0, .int 0, .int 0, .int 0]))] s.heap.size = A at hD ⊢
  have hZ : ∀ q : Nat, A q → z0 ≤ q := by rw [← hAe]; exact hZ0
  have hA : ∀ q : Nat, s.heap.size ≤ q → A q := fun q h => by rw [← hAe]; exact Or.inr h
  have hS : va_S A s.heap s.heap [] := va_S.rf
  have hl := lv_entry ([.ref a_0, .ref a_m, .ref a_g, .ref a_p, .ref a_t]) (n := 5) (Nat.le_of_ble_eq_true rfl)
  rw [lg_entry_eq]
  generalize (lg_sl ([.ref a_0, .ref a_m, .ref a_g, .ref a_p, .ref a_t]) ++ List.replicate (5 - (lg_sl ([.ref a_0, .ref a_m, .ref a_g, .ref a_p, .ref a_t])).length) Slot.unset).toArray = ls at hl ⊢
  have hl : lv_has ls 5 [(0, .ref a_0), (1, .ref a_m), (2, .ref a_g), (3, .ref a_p), (4, .ref a_t)] := hl
  refine lv_aload_n hx hb d_Core_init_0 rfl (lv_at hl 0 rfl) ?_
  refine W.objInit hx hb hown (hts _ a_126) (hts _ a_21) (hts _ a_22) rfl (by rw [hml]; exact hl.1) rfl d_Core_init_1 (Nat.le_of_ble_eq_true rfl) (Nat.le_of_ble_eq_true rfl) ?_
  refine W.eq (g2 := F0 m 4 ls []) rfl ?_
  refine lv_aload_n hx hb d_Core_init_4 rfl (lv_at hl 0 rfl) ?_
  refine va_new (ci := 4) (fs := [.int 0, .int 0, .int 0, .int 0, .int 0, .int 0]) (C := "StepMachine$Word") (T := TX4) (N := 6) hx hb hts inU_4 tyX4 tyX4_ok hown (hts _ a_127) (hts _ a_128) (hts _ a_9) hK hP hD hS hA rfl (fun j hj => by rcases (show j = 0 ∨ j = 1 ∨ j = 2 ∨ j = 3 ∨ j = 4 ∨ j = 5 by omega) with rfl | rfl | rfl | rfl | rfl | rfl <;> rfl) (Nat.le_of_ble_eq_true rfl) (Nat.le_of_ble_eq_true rfl) d_Core_init_5 (fun n_5 H hP hD hS => ?_)
  have hP : va_P D vwCl [(a_0, .inr (7, [.null, .null, .null, .null, .null, .null, .int 0, .int 0, .int 0, .int 0, .int 0, .int 0])), (n_5, .inr (4, [.int 0, .int 0, .int 0, .int 0, .int 0, .int 0]))] H := hP
  have hD : va_D A [(a_0, .inr (7, [.null, .null, .null, .null, .null, .null, .int 0, .int 0, .int 0, .int 0, .int 0, .int 0])), (n_5, .inr (4, [.int 0, .int 0, .int 0, .int 0, .int 0, .int 0]))] := hD
  refine W.widen (k := 1) (n := 6) (by omega) (by omega) ?_
  refine lv_dup hx hb d_Core_init_8 rfl ?_
  refine wIN (c1 := fun u => [(n_5, .inr (4, [.int 0, .int 0, .int 0, .int 0, .int 0, .int 0]))]) (n1 := fun u => []) (As := []) (rest := [.ref n_5, .ref a_0]) ⟨hx, hb, hml, hown, hts⟩ (cc_Word_init l D tc tb z0 _ n_5) ⟨va_cnB 0 hts (goodM a_130) rfl rfl rfl hN.2.2.2.2.2.1 (hts _ a_9) (by decide +kernel) ⟨Nat.le_of_ble_eq_true rfl, Nat.le_of_ble_eq_true rfl⟩, rfl, hts _ a_129⟩ hP hD hS hA hZ hK hB hN [1] rfl (by decide) (fun _ => rfl) (fun _ => rfl) rfl hl.1 rfl (Nat.le_of_ble_eq_true rfl) d_Core_init_9 ⟨Nat.le_of_ble_eq_true rfl, Nat.le_of_ble_eq_true rfl⟩ (fun u H locs hP hD hS => ?_)
  have hP : va_P D vwCl [(a_0, .inr (7, [.null, .null, .null, .null, .null, .null, .int 0, .int 0, .int 0, .int 0, .int 0, .int 0])), (n_5, .inr (4, [.int 0, .int 0, .int 0, .int 0, .int 0, .int 0]))] H := hP
  have hD : va_D A [(a_0, .inr (7, [.null, .null, .null, .null, .null, .null, .int 0, .int 0, .int 0, .int 0, .int 0, .int 0])), (n_5, .inr (4, [.int 0, .int 0, .int 0, .int 0, .int 0, .int 0]))] := hD
  refine W.widen (k := 1) (n := 6) (by omega) (by omega) ?_
  refine va_putF (D := D) (ci := 7) (v := .ref n_5) (ty := .object "StepMachine$Word") (C := "StepMachine$Core") (T := TX7) (N := 12) hx hb hts inU_7 tyX7 tyX7_ok nmX7 hown hK hP hD hS 0 rfl rfl 4 (by decide) (hts _ a_154) (fun _ h9 => h9) rfl hin rfl (by decide +kernel) rfl rfl (Nat.le_of_ble_eq_true rfl) d_Core_init_12 (fun H locs hP hD hS => ?_)
  have hP : va_P D vwCl [(a_0, .inr (7, [.null, .null, .null, .null, .ref n_5, .null, .int 0, .int 0, .int 0, .int 0, .int 0, .int 0])), (n_5, .inr (4, [.int 0, .int 0, .int 0, .int 0, .int 0, .int 0]))] H := hP
  have hD : va_D A [(a_0, .inr (7, [.null, .null, .null, .null, .ref n_5, .null, .int 0, .int 0, .int 0, .int 0, .int 0, .int 0])), (n_5, .inr (4, [.int 0, .int 0, .int 0, .int 0, .int 0, .int 0]))] := hD
  refine lv_aload_n hx hb d_Core_init_15 rfl (lv_at hl 0 rfl) ?_
  refine lv_bipush (v := 32) hx hb d_Core_init_16 (by decide) ?_
  refine va_newa (atype := .int) (ty := .int) (n := 32) (a0 := (32, .inl (fun _ => 0))) hx hb (hts _ a_31) rfl hK hP hD hS hA (cell0_i 32) (by decide) (N' := 32) (by decide) (by decide) (Nat.le_of_ble_eq_true rfl) (Nat.le_of_ble_eq_true rfl) d_Core_init_18 (fun n_18 cA H hKn hP hD hS => ?_)
  obtain rfl := cls_eq (k := 0) (c0 := tc 0) hKn rfl (fun _ h => h)
  have hP : va_P D vwCl [(a_0, .inr (7, [.null, .null, .null, .null, .ref n_5, .null, .int 0, .int 0, .int 0, .int 0, .int 0, .int 0])), (n_5, .inr (4, [.int 0, .int 0, .int 0, .int 0, .int 0, .int 0])), (n_18, .inl (tc 0, 32, .inl (fun _ => 0)))] H := hP
  have hD : va_D A [(a_0, .inr (7, [.null, .null, .null, .null, .ref n_5, .null, .int 0, .int 0, .int 0, .int 0, .int 0, .int 0])), (n_5, .inr (4, [.int 0, .int 0, .int 0, .int 0, .int 0, .int 0])), (n_18, .inl (tc 0, 32, .inl (fun _ => 0)))] := hD
  refine W.widen (k := 2) (n := 38) (by omega) (by omega) ?_
  refine va_putF (D := D) (ci := 7) (v := .ref n_18) (ty := .array .int) (C := "StepMachine$Core") (T := TX7) (N := 12) hx hb hts inU_7 tyX7 tyX7_ok nmX7 hown hK hP hD hS 0 rfl rfl 5 (by decide) (hts _ a_155) (fun _ h9 => h9) rfl hin rfl (by decide +kernel) rfl rfl (Nat.le_of_ble_eq_true rfl) d_Core_init_20 (fun H locs hP hD hS => ?_)
  have hP : va_P D vwCl [(a_0, .inr (7, [.null, .null, .null, .null, .ref n_5, .ref n_18, .int 0, .int 0, .int 0, .int 0, .int 0, .int 0])), (n_5, .inr (4, [.int 0, .int 0, .int 0, .int 0, .int 0, .int 0])), (n_18, .inl (tc 0, 32, .inl (fun _ => 0)))] H := hP
  have hD : va_D A [(a_0, .inr (7, [.null, .null, .null, .null, .ref n_5, .ref n_18, .int 0, .int 0, .int 0, .int 0, .int 0, .int 0])), (n_5, .inr (4, [.int 0, .int 0, .int 0, .int 0, .int 0, .int 0])), (n_18, .inl (tc 0, 32, .inl (fun _ => 0)))] := hD
  refine lv_aload_n hx hb d_Core_init_23 rfl (lv_at hl 0 rfl) ?_
  refine lv_aload_n hx hb d_Core_init_24 rfl (lv_at hl 1 rfl) ?_
  refine va_putF (D := D) (ci := 7) (v := .ref a_m) (ty := .object "StepMachine$Memory") (C := "StepMachine$Core") (T := TX7) (N := 12) hx hb hts inU_7 tyX7 tyX7_ok nmX7 hown hK hP hD hS 0 rfl rfl 0 (by decide) (hts _ a_150) (fun _ h9 => h9) rfl hin rfl (by decide +kernel) rfl rfl (Nat.le_of_ble_eq_true rfl) d_Core_init_25 (fun H locs hP hD hS => ?_)
  have hP : va_P D vwCl [(a_0, .inr (7, [.ref a_m, .null, .null, .null, .ref n_5, .ref n_18, .int 0, .int 0, .int 0, .int 0, .int 0, .int 0])), (n_5, .inr (4, [.int 0, .int 0, .int 0, .int 0, .int 0, .int 0])), (n_18, .inl (tc 0, 32, .inl (fun _ => 0)))] H := hP
  have hD : va_D A [(a_0, .inr (7, [.ref a_m, .null, .null, .null, .ref n_5, .ref n_18, .int 0, .int 0, .int 0, .int 0, .int 0, .int 0])), (n_5, .inr (4, [.int 0, .int 0, .int 0, .int 0, .int 0, .int 0])), (n_18, .inl (tc 0, 32, .inl (fun _ => 0)))] := hD
  refine lv_aload_n hx hb d_Core_init_28 rfl (lv_at hl 0 rfl) ?_
  refine lv_aload_n hx hb d_Core_init_29 rfl (lv_at hl 2 rfl) ?_
  refine va_putF (D := D) (ci := 7) (v := .ref a_g) (ty := .object "StepMachine$Guard") (C := "StepMachine$Core") (T := TX7) (N := 12) hx hb hts inU_7 tyX7 tyX7_ok nmX7 hown hK hP hD hS 0 rfl rfl 1 (by decide) (hts _ a_151) (fun _ h9 => h9) rfl hin rfl (by decide +kernel) rfl rfl (Nat.le_of_ble_eq_true rfl) d_Core_init_30 (fun H locs hP hD hS => ?_)
  have hP : va_P D vwCl [(a_0, .inr (7, [.ref a_m, .ref a_g, .null, .null, .ref n_5, .ref n_18, .int 0, .int 0, .int 0, .int 0, .int 0, .int 0])), (n_5, .inr (4, [.int 0, .int 0, .int 0, .int 0, .int 0, .int 0])), (n_18, .inl (tc 0, 32, .inl (fun _ => 0)))] H := hP
  have hD : va_D A [(a_0, .inr (7, [.ref a_m, .ref a_g, .null, .null, .ref n_5, .ref n_18, .int 0, .int 0, .int 0, .int 0, .int 0, .int 0])), (n_5, .inr (4, [.int 0, .int 0, .int 0, .int 0, .int 0, .int 0])), (n_18, .inl (tc 0, 32, .inl (fun _ => 0)))] := hD
  refine lv_aload_n hx hb d_Core_init_33 rfl (lv_at hl 0 rfl) ?_
  refine lv_aload_n hx hb d_Core_init_34 rfl (lv_at hl 3 rfl) ?_
  refine va_putF (D := D) (ci := 7) (v := .ref a_p) (ty := .object "StepMachine$Ports") (C := "StepMachine$Core") (T := TX7) (N := 12) hx hb hts inU_7 tyX7 tyX7_ok nmX7 hown hK hP hD hS 0 rfl rfl 2 (by decide) (hts _ a_152) (fun _ h9 => h9) rfl hin rfl (by decide +kernel) rfl rfl (Nat.le_of_ble_eq_true rfl) d_Core_init_35 (fun H locs hP hD hS => ?_)
  have hP : va_P D vwCl [(a_0, .inr (7, [.ref a_m, .ref a_g, .ref a_p, .null, .ref n_5, .ref n_18, .int 0, .int 0, .int 0, .int 0, .int 0, .int 0])), (n_5, .inr (4, [.int 0, .int 0, .int 0, .int 0, .int 0, .int 0])), (n_18, .inl (tc 0, 32, .inl (fun _ => 0)))] H := hP
  have hD : va_D A [(a_0, .inr (7, [.ref a_m, .ref a_g, .ref a_p, .null, .ref n_5, .ref n_18, .int 0, .int 0, .int 0, .int 0, .int 0, .int 0])), (n_5, .inr (4, [.int 0, .int 0, .int 0, .int 0, .int 0, .int 0])), (n_18, .inl (tc 0, 32, .inl (fun _ => 0)))] := hD
  refine lv_aload_n hx hb d_Core_init_38 rfl (lv_at hl 0 rfl) ?_
  refine lv_aload hx hb d_Core_init_39 (lv_at hl 4 rfl) ?_
  refine va_putF (D := D) (ci := 7) (v := .ref a_t) (ty := .object "StepMachine$Trail") (C := "StepMachine$Core") (T := TX7) (N := 12) hx hb hts inU_7 tyX7 tyX7_ok nmX7 hown hK hP hD hS 0 rfl rfl 3 (by decide) (hts _ a_153) (fun _ h9 => h9) rfl hin rfl (by decide +kernel) rfl rfl (Nat.le_of_ble_eq_true rfl) d_Core_init_41 (fun H locs hP hD hS => ?_)
  have hP : va_P D vwCl [(a_0, .inr (7, [.ref a_m, .ref a_g, .ref a_p, .ref a_t, .ref n_5, .ref n_18, .int 0, .int 0, .int 0, .int 0, .int 0, .int 0])), (n_5, .inr (4, [.int 0, .int 0, .int 0, .int 0, .int 0, .int 0])), (n_18, .inl (tc 0, 32, .inl (fun _ => 0)))] H := hP
  have hD : va_D A [(a_0, .inr (7, [.ref a_m, .ref a_g, .ref a_p, .ref a_t, .ref n_5, .ref n_18, .int 0, .int 0, .int 0, .int 0, .int 0, .int 0])), (n_5, .inr (4, [.int 0, .int 0, .int 0, .int 0, .int 0, .int 0])), (n_18, .inl (tc 0, 32, .inl (fun _ => 0)))] := hD
  exact W.vret hx hb hr (fun t ht hW => ⟨⟨(n_5, n_18), rfl, trivial, by rw [ht]; exact hP, va_K.moved hW.alike hK, hD⟩, hS.F ht⟩) hS.2.2 d_Core_init_44
