def cF_Halts_find_L2 (v_hc : Int32) (v_hp : Nat → Int32) (x0 : Int32) : Nat → Int32 → Int32
  | 0, _ => 0
  | n + 1, k_i => (if v_hc ≤ k_i then (-1) else (if (v_hp k_i.toNatClampNeg) = x0 then k_i else ((cF_Halts_find_L2 v_hc v_hp x0 n) (k_i + 1))))
def cF_Halts_find (v_hc : Int32) (v_hp : Nat → Int32) (x0 : Int32) : Int32 := (cF_Halts_find_L2 v_hc v_hp x0 (v_hc.toNatClampNeg + 1) 0)
set_option maxHeartbeats 4000000 in
set_option maxRecDepth 100000 in
theorem cc_Halts_find (l : Launch) (D : va_G) (tc : Nat → ClassId) (tb : Nat → Nat) (z0 : Nat) (a_h a_hp : Nat) (v_hc : Int32) (v_hp : Nat → Int32) (x0 : Int32) (hc0 : 0 ≤ v_hc.toInt ∧ v_hc.toInt ≤ 8) : Met l y_Halt_find (wM y_Halt_find b_Halt_find 3 (some .int)) ({ frames := 0, cells := 0, slots := 0, locals := 0 }) (va_Pc [.ref a_h, .int x0] (Pr D tc tb z0 [(a_h, .inr (2, [.ref a_hp, .int v_hc])), (a_hp, .inl (tc 0, 8, .inl v_hp))])) (vp_Si (fun r => r = (cF_Halts_find v_hc v_hp x0))) 0 0 (fun _ => False) := by
  refine Met.ofW (cc := b_Halt_find) (maxL := 3) (ret := (some .int)) (by decide) rfl ?_
  intro p e s m args below meth c s₁ B hml hv
  obtain ⟨rfl, hP, hK, hB⟩ := hv
  have hx := B.exec
  have hb := B.bytes
  have hr := B.returns
  have hts : ∀ w ∈ wALL, w.before _ s = true := fun w h => atoms_spec (ws := (wM y_Halt_find b_Halt_find 3 (some .int))) B.pre w (List.mem_cons_of_mem _ h)
  have hown : s.vm.findClass "StepMachine$Halts" = some m.cls := findClass_of_methodNamed B.named
  have hlocks := B.notSynchronized
  have hl := lv_entry ([.ref a_h, .int x0]) (n := 3) (Nat.le_of_ble_eq_true rfl)
  rw [lg_entry_eq]
  generalize (lg_sl ([.ref a_h, .int x0]) ++ List.replicate (3 - (lg_sl ([.ref a_h, .int x0])).length) Slot.unset).toArray = ls at hl ⊢
  have hl : lv_has ls 3 [(0, .ref a_h), (1, .int x0)] := hl
  refine lv_iconst (v := 0) hx hb d_Halt_find_0 (by decide) ?_
  refine lv_istore_n (lv' := [(2, .int 0), (0, .ref a_h), (1, .int x0)]) hx hb d_Halt_find_1 rfl hl (by decide) rfl (fun ls hl => ?_)
  have loop : ∀ (n i : Nat) (ls : Array Slot), i ≤ v_hc.toNatClampNeg → v_hc.toNatClampNeg + 1 ≤ i + n → cF_Halts_find_L2 v_hc v_hp x0 n (nI i)  = (cF_Halts_find v_hc v_hp x0) → lv_has ls 3 [(2, .int (nI i)), (0, .ref a_h), (1, .int x0)] → W p l e (headSpec (wM y_Halt_find b_Halt_find 3 (some .int)) ({ frames := 0, cells := 0, slots := 0, locals := 0 })).room s m ([.ref a_h, .int x0]).toArray below meth c s.heap [] 0 0 (MQ below (vp_Si (fun r => r = (cF_Halts_find v_hc v_hp x0))) ([.ref a_h, .int x0]).toArray s 0 0 (fun _ => False)) (F0 m 2 ls []) := by
    intro n
    induction n with
    | zero =>
      intro i ls h1 h2
      exact absurd h2 (by omega)
    | succ n ih =>
      intro i ls hi hn hF hl
      refine lv_iload_n hx hb d_Halt_find_2 rfl (lv_at hl 0 rfl) ?_
      refine lv_aload_n hx hb d_Halt_find_3 rfl (lv_at hl 1 rfl) ?_
      refine va_get (D := D) (ci := 2) (v := .int v_hc) (C := "StepMachine$Halts") (T := TX2) (N := 2) hx hb hts inU_2 hown hK hP 0 rfl rfl 1 (by decide) (hts _ a_54) (fun _ h9 => h9) rfl d_Halt_find_4 ?_
      refine lv_icmp_ge (tgt := 28) hx hb d_Halt_find_7 (by decide) (fun c_7 => ?_) (fun c_7 => ?_)
      · skip
        refine lv_iconst (v := (-1)) hx hb d_Halt_find_28 (by decide) ?_
        exact W.iret (v := (-1)) hx hb hr (fun t ht hW => ⟨_, rfl, by rw [← hF, cF_Halts_find_L2, if_pos c_7], ht⟩) (fun q h => by cases h) d_Halt_find_29
      · skip
        refine lv_aload_n hx hb d_Halt_find_10 rfl (lv_at hl 1 rfl) ?_
        refine va_get (D := D) (ci := 2) (v := .ref a_hp) (C := "StepMachine$Halts") (T := TX2) (N := 2) hx hb hts inU_2 hown hK hP 0 rfl rfl 0 (by decide) (hts _ a_53) (fun _ h9 => h9) rfl d_Halt_find_11 ?_
        refine lv_iload_n hx hb d_Halt_find_14 rfl (lv_at hl 0 rfl) ?_
        refine va_iald hx hb hK hP 1 0 rfl rfl (ob_lpN hi c_7 hc0.2) d_Halt_find_15 ?_
        refine lv_iload_n hx hb d_Halt_find_16 rfl (lv_at hl 2 rfl) ?_
        refine lv_icmp_ne (tgt := 22) hx hb d_Halt_find_17 (by decide) (fun c_17 => ?_) (fun c_17 => ?_)
        · skip
          refine lv_iinc (v := ((nI i) + 1)) (lv' := [(2, .int ((nI i) + 1)), (0, .ref a_h), (1, .int x0)]) hx hb d_Halt_find_22 hl (k := 0) rfl rfl (by decide) rfl (fun ls hl => ?_)
          refine lv_goto (tgt := 2) hx hb d_Halt_find_25 (by decide) ?_
          exact ih (i + 1) ls (lp_lt c_7 hi) (by omega) (by rw [← hF, cF_Halts_find_L2, if_neg c_7, if_neg c_17, nI_1]) (by have h := lv_sub hl (l' := [(2, .int ((nI i) + 1)), (0, .ref a_h), (1, .int x0)]) [0, 1, 2] rfl; rw [nI_1] at h; exact h)
        · skip
          refine lv_iload_n hx hb d_Halt_find_20 rfl (lv_at hl 0 rfl) ?_
          exact W.iret (v := (nI i)) hx hb hr (fun t ht hW => ⟨_, rfl, by rw [← hF, cF_Halts_find_L2, if_neg c_7, if_pos c_17], ht⟩) (fun q h => by cases h) d_Halt_find_21
  exact loop (v_hc.toNatClampNeg + 1) 0 ls (Nat.zero_le _) (by omega) (by rw [cF_Halts_find, nI_0]) (by rw [nI_0]; exact lv_sub hl [0, 1, 2] rfl)
def cF_Halts_has (v_hc : Int32) (v_hp : Nat → Int32) (x0 : Int32) : Int32 := (if (cF_Halts_find v_hc v_hp x0) = (-1) then 0 else 1)
set_option maxHeartbeats 4000000 in
set_option maxRecDepth 100000 in
theorem cc_Halts_has (l : Launch) (D : va_G) (tc : Nat → ClassId) (tb : Nat → Nat) (z0 : Nat) (a_h a_hp : Nat) (v_hc : Int32) (v_hp : Nat → Int32) (x0 : Int32) (hc0 : 0 ≤ v_hc.toInt ∧ v_hc.toInt ≤ 8) : Met l y_Halt_has (wM y_Halt_has b_Halt_has 2 (some .boolean)) ({ frames := 1, cells := 0, slots := 0, locals := 22 }) (va_Pc [.ref a_h, .int x0] (Pr D tc tb z0 [(a_h, .inr (2, [.ref a_hp, .int v_hc])), (a_hp, .inl (tc 0, 8, .inl v_hp))])) (vp_Si (fun r => r = (cF_Halts_has v_hc v_hp x0))) 0 0 (fun _ => False) := by
  refine Met.ofW (cc := b_Halt_has) (maxL := 2) (ret := (some .boolean)) (by decide) rfl ?_
  intro p e s m args below meth c s₁ B hml hv
  obtain ⟨rfl, hP, hK, hB⟩ := hv
  have hx := B.exec
  have hb := B.bytes
  have hr := B.returns
  have hts : ∀ w ∈ wALL, w.before _ s = true := fun w h => atoms_spec (ws := (wM y_Halt_has b_Halt_has 2 (some .boolean))) B.pre w (List.mem_cons_of_mem _ h)
  have hown : s.vm.findClass "StepMachine$Halts" = some m.cls := findClass_of_methodNamed B.named
  have hlocks := B.notSynchronized
  have hl := lv_entry ([.ref a_h, .int x0]) (n := 2) (Nat.le_of_ble_eq_true rfl)
  rw [lg_entry_eq]
  generalize (lg_sl ([.ref a_h, .int x0]) ++ List.replicate (2 - (lg_sl ([.ref a_h, .int x0])).length) Slot.unset).toArray = ls at hl ⊢
  have hl : lv_has ls 2 [(0, .ref a_h), (1, .int x0)] := hl
  refine lv_aload_n hx hb d_Halt_has_0 rfl (lv_at hl 0 rfl) ?_
  refine lv_iload_n hx hb d_Halt_has_1 rfl (lv_at hl 1 rfl) ?_
  refine roVi (As := [.int x0]) (rest := []) ⟨hx, hb, hml, hown, hts⟩ (cc_Halts_find l D tc tb z0 a_h a_hp v_hc v_hp x0 hc0) (cwV 1 hts (goodV a_311 a_312 a_895 a_4 a_313) rfl rfl rfl hv_Halt_find ⟨Nat.le_of_ble_eq_true rfl, Nat.le_of_ble_eq_true rfl⟩) (hP.sub [0, 1] rfl) hK hB rfl rfl rfl hl.1 rfl (Nat.le_of_ble_eq_true rfl) d_Halt_has_2 ⟨Nat.zero_le _, Nat.zero_le _⟩ ?_
  refine lv_iconst (v := (-1)) hx hb d_Halt_has_5 (by decide) ?_
  refine lv_icmp_eq (tgt := 13) hx hb d_Halt_has_6 (by decide) (fun c_6 => ?_) (fun c_6 => ?_)
  · skip
    refine lv_iconst (v := 0) hx hb d_Halt_has_13 (by decide) ?_
    exact W.zret (v := 0) hx hb hr rfl (fun t ht hW => ⟨_, rfl, by rw [cF_Halts_has, if_pos c_6], ht⟩) (fun q h => by cases h) d_Halt_has_14
  · skip
    refine lv_iconst (v := 1) hx hb d_Halt_has_9 (by decide) ?_
    refine lv_goto (tgt := 14) hx hb d_Halt_has_10 (by decide) ?_
    exact W.zret (v := 1) hx hb hr rfl (fun t ht hW => ⟨_, rfl, by rw [cF_Halts_has, if_neg c_6], ht⟩) (fun q h => by cases h) d_Halt_has_14
def cF_Halts_add (v_hc : Int32) (v_hp : Nat → Int32) (x0 : Int32) : Int32 × (Nat → Int32) × Int32 := (if x0 < 0 then (0, v_hp, v_hc) else (if (x0 &&& 1) = 0 then (if (cF_Halts_has v_hc v_hp x0) = 0 then (if v_hc < 8 then (1, (upd v_hp v_hc.toNatClampNeg x0), (v_hc + 1)) else (0, v_hp, v_hc)) else (0, v_hp, v_hc)) else (0, v_hp, v_hc)))
set_option maxHeartbeats 4000000 in
set_option maxRecDepth 100000 in
theorem cc_Halts_add (l : Launch) (D : va_G) (tc : Nat → ClassId) (tb : Nat → Nat) (z0 : Nat) (sz : Nat) (a_h a_hp : Nat) (v_hc : Int32) (v_hp : Nat → Int32) (x0 : Int32) (hc0 : 0 ≤ v_hc.toInt ∧ v_hc.toInt ≤ 8) : Met l y_Halt_add (wM y_Halt_add b_Halt_add 2 (some .boolean)) ({ frames := 2, cells := 0, slots := 0, locals := 43 }) (va_Pc [.ref a_h, .int x0] (Pw D tc tb z0 [(a_h, .inr (2, [.ref a_hp, .int v_hc])), (a_hp, .inl (tc 0, 8, .inl v_hp))] sz)) (va_Qi (fun (r : Int32) (u : (Nat → Int32) × Int32) => (r, u) = (cF_Halts_add v_hc v_hp x0)) (Bw D tc (va_A [(a_h, .inr (2, [.ref a_hp, .int v_hc])), (a_hp, .inl (tc 0, 8, .inl v_hp))] sz) (fun u => [(a_h, .inr (2, [.ref a_hp, .int u.2])), (a_hp, .inl (tc 0, 8, .inl u.1))])) (va_A [(a_h, .inr (2, [.ref a_hp, .int v_hc])), (a_hp, .inl (tc 0, 8, .inl v_hp))] sz)) 0 0 (va_A [(a_h, .inr (2, [.ref a_hp, .int v_hc])), (a_hp, .inl (tc 0, 8, .inl v_hp))] sz) := by
  refine Met.ofW (cc := b_Halt_add) (maxL := 2) (ret := (some .boolean)) (by decide) rfl ?_
  intro p e s m args below meth c s₁ B hml hv
  obtain ⟨rfl, hsz, hP, hK, hB, hD0, hZ0⟩ := hv
  have hx := B.exec
  have hb := B.bytes
  have hr := B.returns
  have hts : ∀ w ∈ wALL, w.before _ s = true := fun w h => atoms_spec (ws := (wM y_Halt_add b_Halt_add 2 (some .boolean))) B.pre w (List.mem_cons_of_mem _ h)
  have hown : s.vm.findClass "StepMachine$Halts" = some m.cls := findClass_of_methodNamed B.named
  have hlocks := B.notSynchronized
  subst hsz
  have hD := hD0.self (sz := s.heap.size)
  generalize hAe : va_A [(a_h, .inr (2, [.ref a_hp, .int v_hc])), (a_hp, .inl (tc 0, 8, .inl v_hp))] s.heap.size = A at hD ⊢
  have hZ : ∀ q : Nat, A q → z0 ≤ q := by rw [← hAe]; exact hZ0
  have hA : ∀ q : Nat, s.heap.size ≤ q → A q := fun q h => by rw [← hAe]; exact Or.inr h
  have hS : va_S A s.heap s.heap [] := va_S.rf
  have hl := lv_entry ([.ref a_h, .int x0]) (n := 2) (Nat.le_of_ble_eq_true rfl)
  rw [lg_entry_eq]
  generalize (lg_sl ([.ref a_h, .int x0]) ++ List.replicate (2 - (lg_sl ([.ref a_h, .int x0])).length) Slot.unset).toArray = ls at hl ⊢
  have hl : lv_has ls 2 [(0, .ref a_h), (1, .int x0)] := hl
  refine lv_iload_n hx hb d_Halt_add_0 rfl (lv_at hl 1 rfl) ?_
  refine lv_if_lt (tgt := 27) hx hb d_Halt_add_1 (by decide) (fun c_1 => ?_) (fun c_1 => ?_)
  · skip
    refine lv_iconst (v := 0) hx hb d_Halt_add_27 (by decide) ?_
    exact W.zret (v := 0) hx hb hr rfl (fun t ht hW => ⟨⟨_, (v_hp, v_hc), rfl, by rw [cF_Halts_add, if_pos c_1], by rw [ht]; exact hP, va_K.moved hW.alike hK, hD⟩, hS.F ht⟩) hS.2.2 d_Halt_add_28
  · skip
    refine lv_iload_n hx hb d_Halt_add_4 rfl (lv_at hl 1 rfl) ?_
    refine lv_iconst (v := 1) hx hb d_Halt_add_5 (by decide) ?_
    refine lv_iand hx hb d_Halt_add_6 ?_
    refine lv_if_ne (tgt := 27) hx hb d_Halt_add_7 (by decide) (fun c_7 => ?_) (fun c_7 => ?_)
    · skip
      refine lv_iconst (v := 0) hx hb d_Halt_add_27 (by decide) ?_
      exact W.zret (v := 0) hx hb hr rfl (fun t ht hW => ⟨⟨_, (v_hp, v_hc), rfl, by rw [cF_Halts_add, if_neg c_1, if_neg c_7], by rw [ht]; exact hP, va_K.moved hW.alike hK, hD⟩, hS.F ht⟩) hS.2.2 d_Halt_add_28
    · skip
      refine lv_aload_n hx hb d_Halt_add_10 rfl (lv_at hl 0 rfl) ?_
      refine lv_iload_n hx hb d_Halt_add_11 rfl (lv_at hl 1 rfl) ?_
      refine roVi (As := [.int x0]) (rest := []) ⟨hx, hb, hml, hown, hts⟩ (cc_Halts_has l D tc tb z0 a_h a_hp v_hc v_hp x0 hc0) (cwV 1 hts (goodV a_307 a_308 a_309 a_4 a_310) rfl rfl rfl hv_Halt_has ⟨Nat.le_of_ble_eq_true rfl, Nat.le_of_ble_eq_true rfl⟩) (hP.sub [0, 1] rfl) hK (hB.kept hS hZ) rfl rfl rfl hl.1 rfl (Nat.le_of_ble_eq_true rfl) d_Halt_add_12 ⟨Nat.zero_le _, Nat.zero_le _⟩ ?_
      refine lv_if_ne (tgt := 27) hx hb d_Halt_add_15 (by decide) (fun c_15 => ?_) (fun c_15 => ?_)
      · skip
        refine lv_iconst (v := 0) hx hb d_Halt_add_27 (by decide) ?_
        exact W.zret (v := 0) hx hb hr rfl (fun t ht hW => ⟨⟨_, (v_hp, v_hc), rfl, by rw [cF_Halts_add, if_neg c_1, if_pos c_7, if_neg c_15], by rw [ht]; exact hP, va_K.moved hW.alike hK, hD⟩, hS.F ht⟩) hS.2.2 d_Halt_add_28
      · skip
        refine lv_aload_n hx hb d_Halt_add_18 rfl (lv_at hl 0 rfl) ?_
        refine va_get (D := D) (ci := 2) (v := .int v_hc) (C := "StepMachine$Halts") (T := TX2) (N := 2) hx hb hts inU_2 hown hK hP 0 rfl rfl 1 (by decide) (hts _ a_54) (fun _ h9 => h9) rfl d_Halt_add_19 ?_
        refine lv_bipush (v := 8) hx hb d_Halt_add_22 (by decide) ?_
        refine lv_icmp_lt (tgt := 29) hx hb d_Halt_add_24 (by decide) (fun c_24 => ?_) (fun c_24 => ?_)
        · skip
          refine lv_aload_n hx hb d_Halt_add_29 rfl (lv_at hl 0 rfl) ?_
          refine va_get (D := D) (ci := 2) (v := .ref a_hp) (C := "StepMachine$Halts") (T := TX2) (N := 2) hx hb hts inU_2 hown hK hP 0 rfl rfl 0 (by decide) (hts _ a_53) (fun _ h9 => h9) rfl d_Halt_add_30 ?_
          refine lv_aload_n hx hb d_Halt_add_33 rfl (lv_at hl 0 rfl) ?_
          refine va_get (D := D) (ci := 2) (v := .int v_hc) (C := "StepMachine$Halts") (T := TX2) (N := 2) hx hb hts inU_2 hown hK hP 0 rfl rfl 1 (by decide) (hts _ a_54) (fun _ h9 => h9) rfl d_Halt_add_34 ?_
          refine lv_iload_n hx hb d_Halt_add_37 rfl (lv_at hl 1 rfl) ?_
          refine va_iast hx hb hK hP hD hS 1 0 rfl rfl (ob_rngL hc0.1 c_24 (by decide)) d_Halt_add_38 (fun H locs hP hD hS => ?_)
          have hP : va_P D vwCl [(a_h, .inr (2, [.ref a_hp, .int v_hc])), (a_hp, .inl (tc 0, 8, .inl (upd v_hp v_hc.toNatClampNeg x0)))] H := hP
          have hD : va_D A [(a_h, .inr (2, [.ref a_hp, .int v_hc])), (a_hp, .inl (tc 0, 8, .inl (upd v_hp v_hc.toNatClampNeg x0)))] := hD
          refine lv_aload_n hx hb d_Halt_add_39 rfl (lv_at hl 0 rfl) ?_
          refine lv_dup hx hb d_Halt_add_40 rfl ?_
          refine va_get (D := D) (ci := 2) (v := .int v_hc) (C := "StepMachine$Halts") (T := TX2) (N := 2) hx hb hts inU_2 hown hK hP 0 rfl rfl 1 (by decide) (hts _ a_54) (fun _ h9 => h9) rfl d_Halt_add_41 ?_
          refine lv_iconst (v := 1) hx hb d_Halt_add_44 (by decide) ?_
          refine lv_iadd hx hb d_Halt_add_45 ?_
          refine va_put (D := D) (ci := 2) (v := .int (v_hc + 1)) (ty := .int) (C := "StepMachine$Halts") (T := TX2) (N := 2) hx hb hts inU_2 tyX2 tyX2_ok nmX2 hown hK hP hD hS 0 rfl rfl 1 (by decide) (hts _ a_54) (fun _ h9 => h9) rfl (by decide +kernel) rfl rfl (Nat.le_of_ble_eq_true rfl) d_Halt_add_46 (fun H locs hP hD hS => ?_)
          have hP : va_P D vwCl [(a_h, .inr (2, [.ref a_hp, .int (v_hc + 1)])), (a_hp, .inl (tc 0, 8, .inl (upd v_hp v_hc.toNatClampNeg x0)))] H := hP
          have hD : va_D A [(a_h, .inr (2, [.ref a_hp, .int (v_hc + 1)])), (a_hp, .inl (tc 0, 8, .inl (upd v_hp v_hc.toNatClampNeg x0)))] := hD
          refine lv_iconst (v := 1) hx hb d_Halt_add_49 (by decide) ?_
          exact W.zret (v := 1) hx hb hr rfl (fun t ht hW => ⟨⟨_, ((upd v_hp v_hc.toNatClampNeg x0), (v_hc + 1)), rfl, by rw [cF_Halts_add, if_neg c_1, if_pos c_7, if_pos c_15, if_pos c_24], by rw [ht]; exact hP, va_K.moved hW.alike hK, hD⟩, hS.F ht⟩) hS.2.2 d_Halt_add_50
        · skip
          refine lv_iconst (v := 0) hx hb d_Halt_add_27 (by decide) ?_
          exact W.zret (v := 0) hx hb hr rfl (fun t ht hW => ⟨⟨_, (v_hp, v_hc), rfl, by rw [cF_Halts_add, if_neg c_1, if_pos c_7, if_pos c_15, if_neg c_24], by rw [ht]; exact hP, va_K.moved hW.alike hK, hD⟩, hS.F ht⟩) hS.2.2 d_Halt_add_28
theorem ob_find (v_hc : Int32) (v_hp : Nat → Int32) (x0 : Int32) : ∀ (n i : Nat), i ≤ v_hc.toNatClampNeg → v_hc.toNatClampNeg + 1 ≤ i + n → cF_Halts_find_L2 v_hc v_hp x0 n (nI i) = -1 ∨ ∃ j : Nat, j < v_hc.toNatClampNeg ∧ cF_Halts_find_L2 v_hc v_hp x0 n (nI i) = nI j := by
  intro n
  induction n with
  | zero => intro i h1 h2; omega
  | succ n ih =>
    intro i h1 h2
    rw [cF_Halts_find_L2]
    split
    · exact Or.inl rfl
    · rename_i h
      have hlt := lp_lt h h1
      split
      · exact Or.inr ⟨i, hlt, rfl⟩
      · rw [nI_1]; exact ih (i + 1) hlt (by omega)
theorem ob_rem {v_hc x0 : Int32} {v_hp : Nat → Int32} (hc0 : 0 ≤ v_hc.toInt ∧ v_hc.toInt ≤ 8) (h : ¬ cF_Halts_find v_hc v_hp x0 = -1) : vp_in (cF_Halts_find v_hc v_hp x0) 8 ∧ vp_in (v_hc - 1) 8 := by
  rcases ob_find v_hc v_hp x0 (v_hc.toNatClampNeg + 1) 0 (Nat.zero_le _) (by omega) with h1 | ⟨j, h1, h2⟩
  · rw [nI_0] at h1; exact absurd h1 h
  · rw [nI_0] at h2
    have h0 : v_hc.toNatClampNeg = v_hc.toInt.toNat := rfl
    have e : v_hc = nI v_hc.toNatClampNeg := by
      apply Int32.toInt_inj.mp
      rw [nI_toInt (by omega)]
      omega
    refine ⟨by rw [show cF_Halts_find v_hc v_hp x0 = nI j from h2]; exact vp_in_nI (by omega) (by decide), ?_⟩
    rw [e, show (1 : Int32) = nI 1 from rfl, pk_sub (by omega)]
    exact vp_in_nI (by omega) (by decide)
def cF_Halts_remove (v_hc : Int32) (v_hp : Nat → Int32) (x0 : Int32) : Int32 × (Nat → Int32) × Int32 := (if (cF_Halts_find v_hc v_hp x0) = (-1) then (0, v_hp, v_hc) else (1, (upd v_hp (cF_Halts_find v_hc v_hp x0).toNatClampNeg (v_hp (v_hc - 1).toNatClampNeg)), (v_hc - 1)))
set_option maxHeartbeats 4000000 in
set_option maxRecDepth 100000 in
theorem cc_Halts_remove (l : Launch) (D : va_G) (tc : Nat → ClassId) (tb : Nat → Nat) (z0 : Nat) (sz : Nat) (a_h a_hp : Nat) (v_hc : Int32) (v_hp : Nat → Int32) (x0 : Int32) (hc0 : 0 ≤ v_hc.toInt ∧ v_hc.toInt ≤ 8) : Met l y_Halt_remove (wM y_Halt_remove b_Halt_remove 3 (some .boolean)) ({ frames := 1, cells := 0, slots := 0, locals := 22 }) (va_Pc [.ref a_h, .int x0] (Pw D tc tb z0 [(a_h, .inr (2, [.ref a_hp, .int v_hc])), (a_hp, .inl (tc 0, 8, .inl v_hp))] sz)) (va_Qi (fun (r : Int32) (u : (Nat → Int32) × Int32) => (r, u) = (cF_Halts_remove v_hc v_hp x0)) (Bw D tc (va_A [(a_h, .inr (2, [.ref a_hp, .int v_hc])), (a_hp, .inl (tc 0, 8, .inl v_hp))] sz) (fun u => [(a_h, .inr (2, [.ref a_hp, .int u.2])), (a_hp, .inl (tc 0, 8, .inl u.1))])) (va_A [(a_h, .inr (2, [.ref a_hp, .int v_hc])), (a_hp, .inl (tc 0, 8, .inl v_hp))] sz)) 0 0 (va_A [(a_h, .inr (2, [.ref a_hp, .int v_hc])), (a_hp, .inl (tc 0, 8, .inl v_hp))] sz) := by
  refine Met.ofW (cc := b_Halt_remove) (maxL := 3) (ret := (some .boolean)) (by decide) rfl ?_
  intro p e s m args below meth c s₁ B hml hv
  obtain ⟨rfl, hsz, hP, hK, hB, hD0, hZ0⟩ := hv
  have hx := B.exec
  have hb := B.bytes
  have hr := B.returns
  have hts : ∀ w ∈ wALL, w.before _ s = true := fun w h => atoms_spec (ws := (wM y_Halt_remove b_Halt_remove 3 (some .boolean))) B.pre w (List.mem_cons_of_mem _ h)
  have hown : s.vm.findClass "StepMachine$Halts" = some m.cls := findClass_of_methodNamed B.named
  have hlocks := B.notSynchronized
  subst hsz
  have hD := hD0.self (sz := s.heap.size)
  generalize hAe : va_A [(a_h, .inr (2, [.ref a_hp, .int v_hc])), (a_hp, .inl (tc 0, 8, .inl v_hp))] s.heap.size = A at hD ⊢
  have hZ : ∀ q : Nat, A q → z0 ≤ q := by rw [← hAe]; exact hZ0
  have hA : ∀ q : Nat, s.heap.size ≤ q → A q := fun q h => by rw [← hAe]; exact Or.inr h
  have hS : va_S A s.heap s.heap [] := va_S.rf
  have hl := lv_entry ([.ref a_h, .int x0]) (n := 3) (Nat.le_of_ble_eq_true rfl)
  rw [lg_entry_eq]
  generalize (lg_sl ([.ref a_h, .int x0]) ++ List.replicate (3 - (lg_sl ([.ref a_h, .int x0])).length) Slot.unset).toArray = ls at hl ⊢
  have hl : lv_has ls 3 [(0, .ref a_h), (1, .int x0)] := hl
  refine lv_aload_n hx hb d_Halt_remove_0 rfl (lv_at hl 0 rfl) ?_
  refine lv_iload_n hx hb d_Halt_remove_1 rfl (lv_at hl 1 rfl) ?_
  refine roVi (As := [.int x0]) (rest := []) ⟨hx, hb, hml, hown, hts⟩ (cc_Halts_find l D tc tb z0 a_h a_hp v_hc v_hp x0 hc0) (cwV 1 hts (goodV a_311 a_312 a_895 a_4 a_313) rfl rfl rfl hv_Halt_find ⟨Nat.le_of_ble_eq_true rfl, Nat.le_of_ble_eq_true rfl⟩) (hP.sub [0, 1] rfl) hK (hB.kept hS hZ) rfl rfl rfl hl.1 rfl (Nat.le_of_ble_eq_true rfl) d_Halt_remove_2 ⟨Nat.zero_le _, Nat.zero_le _⟩ ?_
  refine lv_istore_n (lv' := [(2, .int (cF_Halts_find v_hc v_hp x0)), (0, .ref a_h), (1, .int x0)]) hx hb d_Halt_remove_5 rfl hl (by decide) rfl (fun ls hl => ?_)
  refine lv_iload_n hx hb d_Halt_remove_6 rfl (lv_at hl 0 rfl) ?_
  refine lv_iconst (v := (-1)) hx hb d_Halt_remove_7 (by decide) ?_
  refine lv_icmp_ne (tgt := 13) hx hb d_Halt_remove_8 (by decide) (fun c_8 => ?_) (fun c_8 => ?_)
  · skip
    refine lv_aload_n hx hb d_Halt_remove_13 rfl (lv_at hl 1 rfl) ?_
    refine lv_dup hx hb d_Halt_remove_14 rfl ?_
    refine va_get (D := D) (ci := 2) (v := .int v_hc) (C := "StepMachine$Halts") (T := TX2) (N := 2) hx hb hts inU_2 hown hK hP 0 rfl rfl 1 (by decide) (hts _ a_54) (fun _ h9 => h9) rfl d_Halt_remove_15 ?_
    refine lv_iconst (v := 1) hx hb d_Halt_remove_18 (by decide) ?_
    refine lv_isub hx hb d_Halt_remove_19 ?_
    refine va_put (D := D) (ci := 2) (v := .int (v_hc - 1)) (ty := .int) (C := "StepMachine$Halts") (T := TX2) (N := 2) hx hb hts inU_2 tyX2 tyX2_ok nmX2 hown hK hP hD hS 0 rfl rfl 1 (by decide) (hts _ a_54) (fun _ h9 => h9) rfl (by decide +kernel) rfl rfl (Nat.le_of_ble_eq_true rfl) d_Halt_remove_20 (fun H locs hP hD hS => ?_)
    have hP : va_P D vwCl [(a_h, .inr (2, [.ref a_hp, .int (v_hc - 1)])), (a_hp, .inl (tc 0, 8, .inl v_hp))] H := hP
    have hD : va_D A [(a_h, .inr (2, [.ref a_hp, .int (v_hc - 1)])), (a_hp, .inl (tc 0, 8, .inl v_hp))] := hD
    refine lv_aload_n hx hb d_Halt_remove_23 rfl (lv_at hl 1 rfl) ?_
    refine va_get (D := D) (ci := 2) (v := .ref a_hp) (C := "StepMachine$Halts") (T := TX2) (N := 2) hx hb hts inU_2 hown hK hP 0 rfl rfl 0 (by decide) (hts _ a_53) (fun _ h9 => h9) rfl d_Halt_remove_24 ?_
    refine lv_iload_n hx hb d_Halt_remove_27 rfl (lv_at hl 0 rfl) ?_
    refine lv_aload_n hx hb d_Halt_remove_28 rfl (lv_at hl 1 rfl) ?_
    refine va_get (D := D) (ci := 2) (v := .ref a_hp) (C := "StepMachine$Halts") (T := TX2) (N := 2) hx hb hts inU_2 hown hK hP 0 rfl rfl 0 (by decide) (hts _ a_53) (fun _ h9 => h9) rfl d_Halt_remove_29 ?_
    refine lv_aload_n hx hb d_Halt_remove_32 rfl (lv_at hl 1 rfl) ?_
    refine va_get (D := D) (ci := 2) (v := .int (v_hc - 1)) (C := "StepMachine$Halts") (T := TX2) (N := 2) hx hb hts inU_2 hown hK hP 0 rfl rfl 1 (by decide) (hts _ a_54) (fun _ h9 => h9) rfl d_Halt_remove_33 ?_
    refine va_iald hx hb hK hP 1 0 rfl rfl (ob_rem hc0 c_8).2 d_Halt_remove_36 ?_
    refine va_iast hx hb hK hP hD hS 1 0 rfl rfl (ob_rem hc0 c_8).1 d_Halt_remove_37 (fun H locs hP hD hS => ?_)
    have hP : va_P D vwCl [(a_h, .inr (2, [.ref a_hp, .int (v_hc - 1)])), (a_hp, .inl (tc 0, 8, .inl (upd v_hp (cF_Halts_find v_hc v_hp x0).toNatClampNeg (v_hp (v_hc - 1).toNatClampNeg))))] H := hP
    have hD : va_D A [(a_h, .inr (2, [.ref a_hp, .int (v_hc - 1)])), (a_hp, .inl (tc 0, 8, .inl (upd v_hp (cF_Halts_find v_hc v_hp x0).toNatClampNeg (v_hp (v_hc - 1).toNatClampNeg))))] := hD
    refine lv_iconst (v := 1) hx hb d_Halt_remove_38 (by decide) ?_
    exact W.zret (v := 1) hx hb hr rfl (fun t ht hW => ⟨⟨_, ((upd v_hp (cF_Halts_find v_hc v_hp x0).toNatClampNeg (v_hp (v_hc - 1).toNatClampNeg)), (v_hc - 1)), rfl, by rw [cF_Halts_remove, if_neg c_8], by rw [ht]; exact hP, va_K.moved hW.alike hK, hD⟩, hS.F ht⟩) hS.2.2 d_Halt_remove_39
  · skip
    refine lv_iconst (v := 0) hx hb d_Halt_remove_11 (by decide) ?_
    exact W.zret (v := 0) hx hb hr rfl (fun t ht hW => ⟨⟨_, (v_hp, v_hc), rfl, by rw [cF_Halts_remove, if_pos c_8], by rw [ht]; exact hP, va_K.moved hW.alike hK, hD⟩, hS.F ht⟩) hS.2.2 d_Halt_remove_12
