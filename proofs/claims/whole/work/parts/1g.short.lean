def cF_ShortForm_sixBits (x0 : Int32) : Int32 := (cF_Word_signed ((cF_Word_part x0 12 1 5) ||| (cF_Word_part x0 2 5 0)) 6)
set_option maxHeartbeats 4000000 in
set_option maxRecDepth 100000 in
theorem cc_ShortForm_sixBits (l : Launch) (D : va_G) (tc : Nat → ClassId) (tb : Nat → Nat) (z0 : Nat) (x0 : Int32) : Met l y_Shor_sixBits (wM y_Shor_sixBits b_Shor_sixBits 1 (some .int)) ({ frames := 1, cells := 0, slots := 0, locals := 23 }) (va_Pc [.int x0] (Pr D tc tb z0 [])) (vp_Si (fun r => r = (cF_ShortForm_sixBits x0))) 0 0 (fun _ => False) := by
  refine Met.ofW (cc := b_Shor_sixBits) (maxL := 1) (ret := (some .int)) (by decide) rfl ?_
  intro p e s m args below meth c s₁ B hml hv
  obtain ⟨rfl, hP, hK, hB⟩ := hv
  have hx := B.exec
  have hb := B.bytes
  have hr := B.returns
  have hts : ∀ w ∈ wALL, w.before _ s = true := fun w h => atoms_spec (ws := (wM y_Shor_sixBits b_Shor_sixBits 1 (some .int))) B.pre w (List.mem_cons_of_mem _ h)
  have hown : s.vm.findClass "StepMachine$ShortForm" = some m.cls := findClass_of_methodNamed B.named
  have hlocks := B.notSynchronized
  have hl := lv_entry ([.int x0]) (n := 1) (Nat.le_of_ble_eq_true rfl)
  rw [lg_entry_eq]
  generalize (lg_sl ([.int x0]) ++ List.replicate (1 - (lg_sl ([.int x0])).length) Slot.unset).toArray = ls at hl ⊢
  have hl : lv_has ls 1 [(0, .int x0)] := hl
  refine lv_iload_n hx hb d_Shor_sixBits_0 rfl (lv_at hl 0 rfl) ?_
  refine lv_bipush (v := 12) hx hb d_Shor_sixBits_1 (by decide) ?_
  refine lv_iconst (v := 1) hx hb d_Shor_sixBits_3 (by decide) ?_
  refine lv_iconst (v := 5) hx hb d_Shor_sixBits_4 (by decide) ?_
  refine roSi (As := [.int x0, .int 12, .int 1, .int 5]) (rest := []) ⟨hx, hb, hml, hown, hts⟩ (cc_Word_part l D tc tb z0 x0 12 1 5) (va_cwS 4 hts (goodS a_363 a_364 a_9 a_365) rfl rfl rfl hs_Word_part ⟨Nat.le_of_ble_eq_true rfl, Nat.le_of_ble_eq_true rfl⟩) (hP.sub [] rfl) hK hB rfl hl.1 rfl (Nat.le_of_ble_eq_true rfl) d_Shor_sixBits_5 ⟨Nat.zero_le _, Nat.zero_le _⟩ ?_
  refine lv_iload_n hx hb d_Shor_sixBits_8 rfl (lv_at hl 0 rfl) ?_
  refine lv_iconst (v := 2) hx hb d_Shor_sixBits_9 (by decide) ?_
  refine lv_iconst (v := 5) hx hb d_Shor_sixBits_10 (by decide) ?_
  refine lv_iconst (v := 0) hx hb d_Shor_sixBits_11 (by decide) ?_
  refine roSi (As := [.int x0, .int 2, .int 5, .int 0]) (rest := [.int (cF_Word_part x0 12 1 5)]) ⟨hx, hb, hml, hown, hts⟩ (cc_Word_part l D tc tb z0 x0 2 5 0) (va_cwS 4 hts (goodS a_363 a_364 a_9 a_365) rfl rfl rfl hs_Word_part ⟨Nat.le_of_ble_eq_true rfl, Nat.le_of_ble_eq_true rfl⟩) (hP.sub [] rfl) hK hB rfl hl.1 rfl (Nat.le_of_ble_eq_true rfl) d_Shor_sixBits_12 ⟨Nat.zero_le _, Nat.zero_le _⟩ ?_
  refine lv_ior hx hb d_Shor_sixBits_15 ?_
  refine lv_bipush (v := 6) hx hb d_Shor_sixBits_16 (by decide) ?_
  refine roSi (As := [.int ((cF_Word_part x0 12 1 5) ||| (cF_Word_part x0 2 5 0)), .int 6]) (rest := []) ⟨hx, hb, hml, hown, hts⟩ (cc_Word_signed l D tc tb z0 ((cF_Word_part x0 12 1 5) ||| (cF_Word_part x0 2 5 0)) 6) (va_cwS 2 hts (goodS a_376 a_377 a_9 a_378) rfl rfl rfl hs_Word_signed ⟨Nat.le_of_ble_eq_true rfl, Nat.le_of_ble_eq_true rfl⟩) (hP.sub [] rfl) hK hB rfl hl.1 rfl (Nat.le_of_ble_eq_true rfl) d_Shor_sixBits_18 ⟨Nat.zero_le _, Nat.zero_le _⟩ ?_
  exact W.iret (v := (cF_Word_signed ((cF_Word_part x0 12 1 5) ||| (cF_Word_part x0 2 5 0)) 6)) hx hb hr (fun t ht hW => ⟨_, rfl, by rw [cF_ShortForm_sixBits], ht⟩) (fun q h => by cases h) d_Shor_sixBits_21
def cF_ShortForm_immediateOfJump (x0 : Int32) : Int32 := (cF_Word_signed ((((((((cF_Word_part x0 12 1 11) ||| (cF_Word_part x0 11 1 4)) ||| (cF_Word_part x0 9 2 8)) ||| (cF_Word_part x0 8 1 10)) ||| (cF_Word_part x0 7 1 6)) ||| (cF_Word_part x0 6 1 7)) ||| (cF_Word_part x0 3 3 1)) ||| (cF_Word_part x0 2 1 5)) 12)
set_option maxHeartbeats 4000000 in
set_option maxRecDepth 100000 in
theorem cc_ShortForm_immediateOfJump (l : Launch) (D : va_G) (tc : Nat → ClassId) (tb : Nat → Nat) (z0 : Nat) (x0 : Int32) : Met l y_Shor_immediateOfJump (wM y_Shor_immediateOfJump b_Shor_immediateOfJump 2 (some .int)) ({ frames := 1, cells := 0, slots := 0, locals := 23 }) (va_Pc [.int x0] (Pr D tc tb z0 [])) (vp_Si (fun r => r = (cF_ShortForm_immediateOfJump x0))) 0 0 (fun _ => False) := by
  refine Met.ofW (cc := b_Shor_immediateOfJump) (maxL := 2) (ret := (some .int)) (by decide) rfl ?_
  intro p e s m args below meth c s₁ B hml hv
  obtain ⟨rfl, hP, hK, hB⟩ := hv
  have hx := B.exec
  have hb := B.bytes
  have hr := B.returns
  have hts : ∀ w ∈ wALL, w.before _ s = true := fun w h => atoms_spec (ws := (wM y_Shor_immediateOfJump b_Shor_immediateOfJump 2 (some .int))) B.pre w (List.mem_cons_of_mem _ h)
  have hown : s.vm.findClass "StepMachine$ShortForm" = some m.cls := findClass_of_methodNamed B.named
  have hlocks := B.notSynchronized
  have hl := lv_entry ([.int x0]) (n := 2) (Nat.le_of_ble_eq_true rfl)
  rw [lg_entry_eq]
  generalize (lg_sl ([.int x0]) ++ List.replicate (2 - (lg_sl ([.int x0])).length) Slot.unset).toArray = ls at hl ⊢
  have hl : lv_has ls 2 [(0, .int x0)] := hl
  refine lv_iload_n hx hb d_Shor_immediateOfJump_0 rfl (lv_at hl 0 rfl) ?_
  refine lv_bipush (v := 12) hx hb d_Shor_immediateOfJump_1 (by decide) ?_
  refine lv_iconst (v := 1) hx hb d_Shor_immediateOfJump_3 (by decide) ?_
  refine lv_bipush (v := 11) hx hb d_Shor_immediateOfJump_4 (by decide) ?_
  refine roSi (As := [.int x0, .int 12, .int 1, .int 11]) (rest := []) ⟨hx, hb, hml, hown, hts⟩ (cc_Word_part l D tc tb z0 x0 12 1 11) (va_cwS 4 hts (goodS a_363 a_364 a_9 a_365) rfl rfl rfl hs_Word_part ⟨Nat.le_of_ble_eq_true rfl, Nat.le_of_ble_eq_true rfl⟩) (hP.sub [] rfl) hK hB rfl hl.1 rfl (Nat.le_of_ble_eq_true rfl) d_Shor_immediateOfJump_6 ⟨Nat.zero_le _, Nat.zero_le _⟩ ?_
  refine lv_iload_n hx hb d_Shor_immediateOfJump_9 rfl (lv_at hl 0 rfl) ?_
  refine lv_bipush (v := 11) hx hb d_Shor_immediateOfJump_10 (by decide) ?_
  refine lv_iconst (v := 1) hx hb d_Shor_immediateOfJump_12 (by decide) ?_
  refine lv_iconst (v := 4) hx hb d_Shor_immediateOfJump_13 (by decide) ?_
  refine roSi (As := [.int x0, .int 11, .int 1, .int 4]) (rest := [.int (cF_Word_part x0 12 1 11)]) ⟨hx, hb, hml, hown, hts⟩ (cc_Word_part l D tc tb z0 x0 11 1 4) (va_cwS 4 hts (goodS a_363 a_364 a_9 a_365) rfl rfl rfl hs_Word_part ⟨Nat.le_of_ble_eq_true rfl, Nat.le_of_ble_eq_true rfl⟩) (hP.sub [] rfl) hK hB rfl hl.1 rfl (Nat.le_of_ble_eq_true rfl) d_Shor_immediateOfJump_14 ⟨Nat.zero_le _, Nat.zero_le _⟩ ?_
  refine lv_ior hx hb d_Shor_immediateOfJump_17 ?_
  refine lv_iload_n hx hb d_Shor_immediateOfJump_18 rfl (lv_at hl 0 rfl) ?_
  refine lv_bipush (v := 9) hx hb d_Shor_immediateOfJump_19 (by decide) ?_
  refine lv_iconst (v := 2) hx hb d_Shor_immediateOfJump_21 (by decide) ?_
  refine lv_bipush (v := 8) hx hb d_Shor_immediateOfJump_22 (by decide) ?_
  refine roSi (As := [.int x0, .int 9, .int 2, .int 8]) (rest := [.int ((cF_Word_part x0 12 1 11) ||| (cF_Word_part x0 11 1 4))]) ⟨hx, hb, hml, hown, hts⟩ (cc_Word_part l D tc tb z0 x0 9 2 8) (va_cwS 4 hts (goodS a_363 a_364 a_9 a_365) rfl rfl rfl hs_Word_part ⟨Nat.le_of_ble_eq_true rfl, Nat.le_of_ble_eq_true rfl⟩) (hP.sub [] rfl) hK hB rfl hl.1 rfl (Nat.le_of_ble_eq_true rfl) d_Shor_immediateOfJump_24 ⟨Nat.zero_le _, Nat.zero_le _⟩ ?_
  refine lv_ior hx hb d_Shor_immediateOfJump_27 ?_
  refine lv_iload_n hx hb d_Shor_immediateOfJump_28 rfl (lv_at hl 0 rfl) ?_
  refine lv_bipush (v := 8) hx hb d_Shor_immediateOfJump_29 (by decide) ?_
  refine lv_iconst (v := 1) hx hb d_Shor_immediateOfJump_31 (by decide) ?_
  refine lv_bipush (v := 10) hx hb d_Shor_immediateOfJump_32 (by decide) ?_
  refine roSi (As := [.int x0, .int 8, .int 1, .int 10]) (rest := [.int (((cF_Word_part x0 12 1 11) ||| (cF_Word_part x0 11 1 4)) ||| (cF_Word_part x0 9 2 8))]) ⟨hx, hb, hml, hown, hts⟩ (cc_Word_part l D tc tb z0 x0 8 1 10) (va_cwS 4 hts (goodS a_363 a_364 a_9 a_365) rfl rfl rfl hs_Word_part ⟨Nat.le_of_ble_eq_true rfl, Nat.le_of_ble_eq_true rfl⟩) (hP.sub [] rfl) hK hB rfl hl.1 rfl (Nat.le_of_ble_eq_true rfl) d_Shor_immediateOfJump_34 ⟨Nat.zero_le _, Nat.zero_le _⟩ ?_
  refine lv_ior hx hb d_Shor_immediateOfJump_37 ?_
  refine lv_iload_n hx hb d_Shor_immediateOfJump_38 rfl (lv_at hl 0 rfl) ?_
  refine lv_bipush (v := 7) hx hb d_Shor_immediateOfJump_39 (by decide) ?_
  refine lv_iconst (v := 1) hx hb d_Shor_immediateOfJump_41 (by decide) ?_
  refine lv_bipush (v := 6) hx hb d_Shor_immediateOfJump_42 (by decide) ?_
  refine roSi (As := [.int x0, .int 7, .int 1, .int 6]) (rest := [.int ((((cF_Word_part x0 12 1 11) ||| (cF_Word_part x0 11 1 4)) ||| (cF_Word_part x0 9 2 8)) ||| (cF_Word_part x0 8 1 10))]) ⟨hx, hb, hml, hown, hts⟩ (cc_Word_part l D tc tb z0 x0 7 1 6) (va_cwS 4 hts (goodS a_363 a_364 a_9 a_365) rfl rfl rfl hs_Word_part ⟨Nat.le_of_ble_eq_true rfl, Nat.le_of_ble_eq_true rfl⟩) (hP.sub [] rfl) hK hB rfl hl.1 rfl (Nat.le_of_ble_eq_true rfl) d_Shor_immediateOfJump_44 ⟨Nat.zero_le _, Nat.zero_le _⟩ ?_
  refine lv_ior hx hb d_Shor_immediateOfJump_47 ?_
  refine lv_iload_n hx hb d_Shor_immediateOfJump_48 rfl (lv_at hl 0 rfl) ?_
  refine lv_bipush (v := 6) hx hb d_Shor_immediateOfJump_49 (by decide) ?_
  refine lv_iconst (v := 1) hx hb d_Shor_immediateOfJump_51 (by decide) ?_
  refine lv_bipush (v := 7) hx hb d_Shor_immediateOfJump_52 (by decide) ?_
  refine roSi (As := [.int x0, .int 6, .int 1, .int 7]) (rest := [.int (((((cF_Word_part x0 12 1 11) ||| (cF_Word_part x0 11 1 4)) ||| (cF_Word_part x0 9 2 8)) ||| (cF_Word_part x0 8 1 10)) ||| (cF_Word_part x0 7 1 6))]) ⟨hx, hb, hml, hown, hts⟩ (cc_Word_part l D tc tb z0 x0 6 1 7) (va_cwS 4 hts (goodS a_363 a_364 a_9 a_365) rfl rfl rfl hs_Word_part ⟨Nat.le_of_ble_eq_true rfl, Nat.le_of_ble_eq_true rfl⟩) (hP.sub [] rfl) hK hB rfl hl.1 rfl (Nat.le_of_ble_eq_true rfl) d_Shor_immediateOfJump_54 ⟨Nat.zero_le _, Nat.zero_le _⟩ ?_
  refine lv_ior hx hb d_Shor_immediateOfJump_57 ?_
  refine lv_iload_n hx hb d_Shor_immediateOfJump_58 rfl (lv_at hl 0 rfl) ?_
  refine lv_iconst (v := 3) hx hb d_Shor_immediateOfJump_59 (by decide) ?_
  refine lv_iconst (v := 3) hx hb d_Shor_immediateOfJump_60 (by decide) ?_
  refine lv_iconst (v := 1) hx hb d_Shor_immediateOfJump_61 (by decide) ?_
  refine roSi (As := [.int x0, .int 3, .int 3, .int 1]) (rest := [.int ((((((cF_Word_part x0 12 1 11) ||| (cF_Word_part x0 11 1 4)) ||| (cF_Word_part x0 9 2 8)) ||| (cF_Word_part x0 8 1 10)) ||| (cF_Word_part x0 7 1 6)) ||| (cF_Word_part x0 6 1 7))]) ⟨hx, hb, hml, hown, hts⟩ (cc_Word_part l D tc tb z0 x0 3 3 1) (va_cwS 4 hts (goodS a_363 a_364 a_9 a_365) rfl rfl rfl hs_Word_part ⟨Nat.le_of_ble_eq_true rfl, Nat.le_of_ble_eq_true rfl⟩) (hP.sub [] rfl) hK hB rfl hl.1 rfl (Nat.le_of_ble_eq_true rfl) d_Shor_immediateOfJump_62 ⟨Nat.zero_le _, Nat.zero_le _⟩ ?_
  refine lv_ior hx hb d_Shor_immediateOfJump_65 ?_
  refine lv_iload_n hx hb d_Shor_immediateOfJump_66 rfl (lv_at hl 0 rfl) ?_
  refine lv_iconst (v := 2) hx hb d_Shor_immediateOfJump_67 (by decide) ?_
  refine lv_iconst (v := 1) hx hb d_Shor_immediateOfJump_68 (by decide) ?_
  refine lv_iconst (v := 5) hx hb d_Shor_immediateOfJump_69 (by decide) ?_
  refine roSi (As := [.int x0, .int 2, .int 1, .int 5]) (rest := [.int (((((((cF_Word_part x0 12 1 11) ||| (cF_Word_part x0 11 1 4)) ||| (cF_Word_part x0 9 2 8)) ||| (cF_Word_part x0 8 1 10)) ||| (cF_Word_part x0 7 1 6)) ||| (cF_Word_part x0 6 1 7)) ||| (cF_Word_part x0 3 3 1))]) ⟨hx, hb, hml, hown, hts⟩ (cc_Word_part l D tc tb z0 x0 2 1 5) (va_cwS 4 hts (goodS a_363 a_364 a_9 a_365) rfl rfl rfl hs_Word_part ⟨Nat.le_of_ble_eq_true rfl, Nat.le_of_ble_eq_true rfl⟩) (hP.sub [] rfl) hK hB rfl hl.1 rfl (Nat.le_of_ble_eq_true rfl) d_Shor_immediateOfJump_70 ⟨Nat.zero_le _, Nat.zero_le _⟩ ?_
  refine lv_ior hx hb d_Shor_immediateOfJump_73 ?_
  refine lv_istore_n (lv' := [(1, .int ((((((((cF_Word_part x0 12 1 11) ||| (cF_Word_part x0 11 1 4)) ||| (cF_Word_part x0 9 2 8)) ||| (cF_Word_part x0 8 1 10)) ||| (cF_Word_part x0 7 1 6)) ||| (cF_Word_part x0 6 1 7)) ||| (cF_Word_part x0 3 3 1)) ||| (cF_Word_part x0 2 1 5))), (0, .int x0)]) hx hb d_Shor_immediateOfJump_74 rfl hl (by decide) rfl (fun ls hl => ?_)
  refine lv_iload_n hx hb d_Shor_immediateOfJump_75 rfl (lv_at hl 0 rfl) ?_
  refine lv_bipush (v := 12) hx hb d_Shor_immediateOfJump_76 (by decide) ?_
  refine roSi (As := [.int ((((((((cF_Word_part x0 12 1 11) ||| (cF_Word_part x0 11 1 4)) ||| (cF_Word_part x0 9 2 8)) ||| (cF_Word_part x0 8 1 10)) ||| (cF_Word_part x0 7 1 6)) ||| (cF_Word_part x0 6 1 7)) ||| (cF_Word_part x0 3 3 1)) ||| (cF_Word_part x0 2 1 5)), .int 12]) (rest := []) ⟨hx, hb, hml, hown, hts⟩ (cc_Word_signed l D tc tb z0 ((((((((cF_Word_part x0 12 1 11) ||| (cF_Word_part x0 11 1 4)) ||| (cF_Word_part x0 9 2 8)) ||| (cF_Word_part x0 8 1 10)) ||| (cF_Word_part x0 7 1 6)) ||| (cF_Word_part x0 6 1 7)) ||| (cF_Word_part x0 3 3 1)) ||| (cF_Word_part x0 2 1 5)) 12) (va_cwS 2 hts (goodS a_376 a_377 a_9 a_378) rfl rfl rfl hs_Word_signed ⟨Nat.le_of_ble_eq_true rfl, Nat.le_of_ble_eq_true rfl⟩) (hP.sub [] rfl) hK hB rfl hl.1 rfl (Nat.le_of_ble_eq_true rfl) d_Shor_immediateOfJump_78 ⟨Nat.zero_le _, Nat.zero_le _⟩ ?_
  exact W.iret (v := (cF_Word_signed ((((((((cF_Word_part x0 12 1 11) ||| (cF_Word_part x0 11 1 4)) ||| (cF_Word_part x0 9 2 8)) ||| (cF_Word_part x0 8 1 10)) ||| (cF_Word_part x0 7 1 6)) ||| (cF_Word_part x0 6 1 7)) ||| (cF_Word_part x0 3 3 1)) ||| (cF_Word_part x0 2 1 5)) 12)) hx hb hr (fun t ht hW => ⟨_, rfl, by rw [cF_ShortForm_immediateOfJump], ht⟩) (fun q h => by cases h) d_Shor_immediateOfJump_81
def cF_ShortForm_immediateOfBranch (x0 : Int32) : Int32 := (cF_Word_signed (((((cF_Word_part x0 12 1 8) ||| (cF_Word_part x0 10 2 3)) ||| (cF_Word_part x0 5 2 6)) ||| (cF_Word_part x0 3 2 1)) ||| (cF_Word_part x0 2 1 5)) 9)
set_option maxHeartbeats 4000000 in
set_option maxRecDepth 100000 in
theorem cc_ShortForm_immediateOfBranch (l : Launch) (D : va_G) (tc : Nat → ClassId) (tb : Nat → Nat) (z0 : Nat) (x0 : Int32) : Met l y_Shor_immediateOfBranch (wM y_Shor_immediateOfBranch b_Shor_immediateOfBranch 2 (some .int)) ({ frames := 1, cells := 0, slots := 0, locals := 23 }) (va_Pc [.int x0] (Pr D tc tb z0 [])) (vp_Si (fun r => r = (cF_ShortForm_immediateOfBranch x0))) 0 0 (fun _ => False) := by
  refine Met.ofW (cc := b_Shor_immediateOfBranch) (maxL := 2) (ret := (some .int)) (by decide) rfl ?_
  intro p e s m args below meth c s₁ B hml hv
  obtain ⟨rfl, hP, hK, hB⟩ := hv
  have hx := B.exec
  have hb := B.bytes
  have hr := B.returns
  have hts : ∀ w ∈ wALL, w.before _ s = true := fun w h => atoms_spec (ws := (wM y_Shor_immediateOfBranch b_Shor_immediateOfBranch 2 (some .int))) B.pre w (List.mem_cons_of_mem _ h)
  have hown : s.vm.findClass "StepMachine$ShortForm" = some m.cls := findClass_of_methodNamed B.named
  have hlocks := B.notSynchronized
  have hl := lv_entry ([.int x0]) (n := 2) (Nat.le_of_ble_eq_true rfl)
  rw [lg_entry_eq]
  generalize (lg_sl ([.int x0]) ++ List.replicate (2 - (lg_sl ([.int x0])).length) Slot.unset).toArray = ls at hl ⊢
  have hl : lv_has ls 2 [(0, .int x0)] := hl
  refine lv_iload_n hx hb d_Shor_immediateOfBranch_0 rfl (lv_at hl 0 rfl) ?_
  refine lv_bipush (v := 12) hx hb d_Shor_immediateOfBranch_1 (by decide) ?_
  refine lv_iconst (v := 1) hx hb d_Shor_immediateOfBranch_3 (by decide) ?_
  refine lv_bipush (v := 8) hx hb d_Shor_immediateOfBranch_4 (by decide) ?_
  refine roSi (As := [.int x0, .int 12, .int 1, .int 8]) (rest := []) ⟨hx, hb, hml, hown, hts⟩ (cc_Word_part l D tc tb z0 x0 12 1 8) (va_cwS 4 hts (goodS a_363 a_364 a_9 a_365) rfl rfl rfl hs_Word_part ⟨Nat.le_of_ble_eq_true rfl, Nat.le_of_ble_eq_true rfl⟩) (hP.sub [] rfl) hK hB rfl hl.1 rfl (Nat.le_of_ble_eq_true rfl) d_Shor_immediateOfBranch_6 ⟨Nat.zero_le _, Nat.zero_le _⟩ ?_
  refine lv_iload_n hx hb d_Shor_immediateOfBranch_9 rfl (lv_at hl 0 rfl) ?_
  refine lv_bipush (v := 10) hx hb d_Shor_immediateOfBranch_10 (by decide) ?_
  refine lv_iconst (v := 2) hx hb d_Shor_immediateOfBranch_12 (by decide) ?_
  refine lv_iconst (v := 3) hx hb d_Shor_immediateOfBranch_13 (by decide) ?_
  refine roSi (As := [.int x0, .int 10, .int 2, .int 3]) (rest := [.int (cF_Word_part x0 12 1 8)]) ⟨hx, hb, hml, hown, hts⟩ (cc_Word_part l D tc tb z0 x0 10 2 3) (va_cwS 4 hts (goodS a_363 a_364 a_9 a_365) rfl rfl rfl hs_Word_part ⟨Nat.le_of_ble_eq_true rfl, Nat.le_of_ble_eq_true rfl⟩) (hP.sub [] rfl) hK hB rfl hl.1 rfl (Nat.le_of_ble_eq_true rfl) d_Shor_immediateOfBranch_14 ⟨Nat.zero_le _, Nat.zero_le _⟩ ?_
  refine lv_ior hx hb d_Shor_immediateOfBranch_17 ?_
  refine lv_iload_n hx hb d_Shor_immediateOfBranch_18 rfl (lv_at hl 0 rfl) ?_
  refine lv_iconst (v := 5) hx hb d_Shor_immediateOfBranch_19 (by decide) ?_
  refine lv_iconst (v := 2) hx hb d_Shor_immediateOfBranch_20 (by decide) ?_
  refine lv_bipush (v := 6) hx hb d_Shor_immediateOfBranch_21 (by decide) ?_
  refine roSi (As := [.int x0, .int 5, .int 2, .int 6]) (rest := [.int ((cF_Word_part x0 12 1 8) ||| (cF_Word_part x0 10 2 3))]) ⟨hx, hb, hml, hown, hts⟩ (cc_Word_part l D tc tb z0 x0 5 2 6) (va_cwS 4 hts (goodS a_363 a_364 a_9 a_365) rfl rfl rfl hs_Word_part ⟨Nat.le_of_ble_eq_true rfl, Nat.le_of_ble_eq_true rfl⟩) (hP.sub [] rfl) hK hB rfl hl.1 rfl (Nat.le_of_ble_eq_true rfl) d_Shor_immediateOfBranch_23 ⟨Nat.zero_le _, Nat.zero_le _⟩ ?_
  refine lv_ior hx hb d_Shor_immediateOfBranch_26 ?_
  refine lv_iload_n hx hb d_Shor_immediateOfBranch_27 rfl (lv_at hl 0 rfl) ?_
  refine lv_iconst (v := 3) hx hb d_Shor_immediateOfBranch_28 (by decide) ?_
  refine lv_iconst (v := 2) hx hb d_Shor_immediateOfBranch_29 (by decide) ?_
  refine lv_iconst (v := 1) hx hb d_Shor_immediateOfBranch_30 (by decide) ?_
  refine roSi (As := [.int x0, .int 3, .int 2, .int 1]) (rest := [.int (((cF_Word_part x0 12 1 8) ||| (cF_Word_part x0 10 2 3)) ||| (cF_Word_part x0 5 2 6))]) ⟨hx, hb, hml, hown, hts⟩ (cc_Word_part l D tc tb z0 x0 3 2 1) (va_cwS 4 hts (goodS a_363 a_364 a_9 a_365) rfl rfl rfl hs_Word_part ⟨Nat.le_of_ble_eq_true rfl, Nat.le_of_ble_eq_true rfl⟩) (hP.sub [] rfl) hK hB rfl hl.1 rfl (Nat.le_of_ble_eq_true rfl) d_Shor_immediateOfBranch_31 ⟨Nat.zero_le _, Nat.zero_le _⟩ ?_
  refine lv_ior hx hb d_Shor_immediateOfBranch_34 ?_
  refine lv_iload_n hx hb d_Shor_immediateOfBranch_35 rfl (lv_at hl 0 rfl) ?_
  refine lv_iconst (v := 2) hx hb d_Shor_immediateOfBranch_36 (by decide) ?_
  refine lv_iconst (v := 1) hx hb d_Shor_immediateOfBranch_37 (by decide) ?_
  refine lv_iconst (v := 5) hx hb d_Shor_immediateOfBranch_38 (by decide) ?_
  refine roSi (As := [.int x0, .int 2, .int 1, .int 5]) (rest := [.int ((((cF_Word_part x0 12 1 8) ||| (cF_Word_part x0 10 2 3)) ||| (cF_Word_part x0 5 2 6)) ||| (cF_Word_part x0 3 2 1))]) ⟨hx, hb, hml, hown, hts⟩ (cc_Word_part l D tc tb z0 x0 2 1 5) (va_cwS 4 hts (goodS a_363 a_364 a_9 a_365) rfl rfl rfl hs_Word_part ⟨Nat.le_of_ble_eq_true rfl, Nat.le_of_ble_eq_true rfl⟩) (hP.sub [] rfl) hK hB rfl hl.1 rfl (Nat.le_of_ble_eq_true rfl) d_Shor_immediateOfBranch_39 ⟨Nat.zero_le _, Nat.zero_le _⟩ ?_
  refine lv_ior hx hb d_Shor_immediateOfBranch_42 ?_
  refine lv_istore_n (lv' := [(1, .int (((((cF_Word_part x0 12 1 8) ||| (cF_Word_part x0 10 2 3)) ||| (cF_Word_part x0 5 2 6)) ||| (cF_Word_part x0 3 2 1)) ||| (cF_Word_part x0 2 1 5))), (0, .int x0)]) hx hb d_Shor_immediateOfBranch_43 rfl hl (by decide) rfl (fun ls hl => ?_)
  refine lv_iload_n hx hb d_Shor_immediateOfBranch_44 rfl (lv_at hl 0 rfl) ?_
  refine lv_bipush (v := 9) hx hb d_Shor_immediateOfBranch_45 (by decide) ?_
  refine roSi (As := [.int (((((cF_Word_part x0 12 1 8) ||| (cF_Word_part x0 10 2 3)) ||| (cF_Word_part x0 5 2 6)) ||| (cF_Word_part x0 3 2 1)) ||| (cF_Word_part x0 2 1 5)), .int 9]) (rest := []) ⟨hx, hb, hml, hown, hts⟩ (cc_Word_signed l D tc tb z0 (((((cF_Word_part x0 12 1 8) ||| (cF_Word_part x0 10 2 3)) ||| (cF_Word_part x0 5 2 6)) ||| (cF_Word_part x0 3 2 1)) ||| (cF_Word_part x0 2 1 5)) 9) (va_cwS 2 hts (goodS a_376 a_377 a_9 a_378) rfl rfl rfl hs_Word_signed ⟨Nat.le_of_ble_eq_true rfl, Nat.le_of_ble_eq_true rfl⟩) (hP.sub [] rfl) hK hB rfl hl.1 rfl (Nat.le_of_ble_eq_true rfl) d_Shor_immediateOfBranch_47 ⟨Nat.zero_le _, Nat.zero_le _⟩ ?_
  exact W.iret (v := (cF_Word_signed (((((cF_Word_part x0 12 1 8) ||| (cF_Word_part x0 10 2 3)) ||| (cF_Word_part x0 5 2 6)) ||| (cF_Word_part x0 3 2 1)) ||| (cF_Word_part x0 2 1 5)) 9)) hx hb hr (fun t ht hW => ⟨_, rfl, by rw [cF_ShortForm_immediateOfBranch], ht⟩) (fun q h => by cases h) d_Shor_immediateOfBranch_50
def cF_ShortForm_immediateOfStackStore (x0 : Int32) : Int32 := ((cF_Word_part x0 9 4 2) ||| (cF_Word_part x0 7 2 6))
set_option maxHeartbeats 4000000 in
set_option maxRecDepth 100000 in
theorem cc_ShortForm_immediateOfStackStore (l : Launch) (D : va_G) (tc : Nat → ClassId) (tb : Nat → Nat) (z0 : Nat) (x0 : Int32) : Met l y_Shor_immediateOfStackStore (wM y_Shor_immediateOfStackStore b_Shor_immediateOfStackStore 1 (some .int)) ({ frames := 1, cells := 0, slots := 0, locals := 23 }) (va_Pc [.int x0] (Pr D tc tb z0 [])) (vp_Si (fun r => r = (cF_ShortForm_immediateOfStackStore x0))) 0 0 (fun _ => False) := by
  refine Met.ofW (cc := b_Shor_immediateOfStackStore) (maxL := 1) (ret := (some .int)) (by decide) rfl ?_
  intro p e s m args below meth c s₁ B hml hv
  obtain ⟨rfl, hP, hK, hB⟩ := hv
  have hx := B.exec
  have hb := B.bytes
  have hr := B.returns
  have hts : ∀ w ∈ wALL, w.before _ s = true := fun w h => atoms_spec (ws := (wM y_Shor_immediateOfStackStore b_Shor_immediateOfStackStore 1 (some .int))) B.pre w (List.mem_cons_of_mem _ h)
  have hown : s.vm.findClass "StepMachine$ShortForm" = some m.cls := findClass_of_methodNamed B.named
  have hlocks := B.notSynchronized
  have hl := lv_entry ([.int x0]) (n := 1) (Nat.le_of_ble_eq_true rfl)
  rw [lg_entry_eq]
  generalize (lg_sl ([.int x0]) ++ List.replicate (1 - (lg_sl ([.int x0])).length) Slot.unset).toArray = ls at hl ⊢
  have hl : lv_has ls 1 [(0, .int x0)] := hl
  refine lv_iload_n hx hb d_Shor_immediateOfStackStore_0 rfl (lv_at hl 0 rfl) ?_
  refine lv_bipush (v := 9) hx hb d_Shor_immediateOfStackStore_1 (by decide) ?_
  refine lv_iconst (v := 4) hx hb d_Shor_immediateOfStackStore_3 (by decide) ?_
  refine lv_iconst (v := 2) hx hb d_Shor_immediateOfStackStore_4 (by decide) ?_
  refine roSi (As := [.int x0, .int 9, .int 4, .int 2]) (rest := []) ⟨hx, hb, hml, hown, hts⟩ (cc_Word_part l D tc tb z0 x0 9 4 2) (va_cwS 4 hts (goodS a_363 a_364 a_9 a_365) rfl rfl rfl hs_Word_part ⟨Nat.le_of_ble_eq_true rfl, Nat.le_of_ble_eq_true rfl⟩) (hP.sub [] rfl) hK hB rfl hl.1 rfl (Nat.le_of_ble_eq_true rfl) d_Shor_immediateOfStackStore_5 ⟨Nat.zero_le _, Nat.zero_le _⟩ ?_
  refine lv_iload_n hx hb d_Shor_immediateOfStackStore_8 rfl (lv_at hl 0 rfl) ?_
  refine lv_bipush (v := 7) hx hb d_Shor_immediateOfStackStore_9 (by decide) ?_
  refine lv_iconst (v := 2) hx hb d_Shor_immediateOfStackStore_11 (by decide) ?_
  refine lv_bipush (v := 6) hx hb d_Shor_immediateOfStackStore_12 (by decide) ?_
  refine roSi (As := [.int x0, .int 7, .int 2, .int 6]) (rest := [.int (cF_Word_part x0 9 4 2)]) ⟨hx, hb, hml, hown, hts⟩ (cc_Word_part l D tc tb z0 x0 7 2 6) (va_cwS 4 hts (goodS a_363 a_364 a_9 a_365) rfl rfl rfl hs_Word_part ⟨Nat.le_of_ble_eq_true rfl, Nat.le_of_ble_eq_true rfl⟩) (hP.sub [] rfl) hK hB rfl hl.1 rfl (Nat.le_of_ble_eq_true rfl) d_Shor_immediateOfStackStore_14 ⟨Nat.zero_le _, Nat.zero_le _⟩ ?_
  refine lv_ior hx hb d_Shor_immediateOfStackStore_17 ?_
  exact W.iret (v := ((cF_Word_part x0 9 4 2) ||| (cF_Word_part x0 7 2 6))) hx hb hr (fun t ht hW => ⟨_, rfl, by rw [cF_ShortForm_immediateOfStackStore], ht⟩) (fun q h => by cases h) d_Shor_immediateOfStackStore_18
def cF_ShortForm_kindOfShift (x0 : Int32) (x1 : Int32) (x2 : Int32) : Int32 := (if x1 = 0 then (if x2 = 0 then (-1) else x0) else (-1))
set_option maxHeartbeats 4000000 in
set_option maxRecDepth 100000 in
theorem cc_ShortForm_kindOfShift (l : Launch) (D : va_G) (tc : Nat → ClassId) (tb : Nat → Nat) (z0 : Nat) (x0 : Int32) (x1 : Int32) (x2 : Int32) : Met l y_Shor_kindOfShift (wM y_Shor_kindOfShift b_Shor_kindOfShift 3 (some .int)) ({ frames := 0, cells := 0, slots := 0, locals := 0 }) (va_Pc [.int x0, .int x1, .int x2] (Pr D tc tb z0 [])) (vp_Si (fun r => r = (cF_ShortForm_kindOfShift x0 x1 x2))) 0 0 (fun _ => False) := by
  refine Met.ofW (cc := b_Shor_kindOfShift) (maxL := 3) (ret := (some .int)) (by decide) rfl ?_
  intro p e s m args below meth c s₁ B hml hv
  obtain ⟨rfl, hP, hK, hB⟩ := hv
  have hx := B.exec
  have hb := B.bytes
  have hr := B.returns
  have hts : ∀ w ∈ wALL, w.before _ s = true := fun w h => atoms_spec (ws := (wM y_Shor_kindOfShift b_Shor_kindOfShift 3 (some .int))) B.pre w (List.mem_cons_of_mem _ h)
  have hown : s.vm.findClass "StepMachine$ShortForm" = some m.cls := findClass_of_methodNamed B.named
  have hlocks := B.notSynchronized
  have hl := lv_entry ([.int x0, .int x1, .int x2]) (n := 3) (Nat.le_of_ble_eq_true rfl)
  rw [lg_entry_eq]
  generalize (lg_sl ([.int x0, .int x1, .int x2]) ++ List.replicate (3 - (lg_sl ([.int x0, .int x1, .int x2])).length) Slot.unset).toArray = ls at hl ⊢
  have hl : lv_has ls 3 [(0, .int x0), (1, .int x1), (2, .int x2)] := hl
  refine lv_iload_n hx hb d_Shor_kindOfShift_0 rfl (lv_at hl 1 rfl) ?_
  refine lv_if_ne (tgt := 8) hx hb d_Shor_kindOfShift_1 (by decide) (fun c_1 => ?_) (fun c_1 => ?_)
  · skip
    refine lv_iconst (v := (-1)) hx hb d_Shor_kindOfShift_8 (by decide) ?_
    refine lv_goto (tgt := 13) hx hb d_Shor_kindOfShift_9 (by decide) ?_
    exact W.iret (v := (-1)) hx hb hr (fun t ht hW => ⟨_, rfl, by rw [cF_ShortForm_kindOfShift, if_neg c_1], ht⟩) (fun q h => by cases h) d_Shor_kindOfShift_13
  · skip
    refine lv_iload_n hx hb d_Shor_kindOfShift_4 rfl (lv_at hl 2 rfl) ?_
    refine lv_if_ne (tgt := 12) hx hb d_Shor_kindOfShift_5 (by decide) (fun c_5 => ?_) (fun c_5 => ?_)
    · skip
      refine lv_iload_n hx hb d_Shor_kindOfShift_12 rfl (lv_at hl 0 rfl) ?_
      exact W.iret (v := x0) hx hb hr (fun t ht hW => ⟨_, rfl, by rw [cF_ShortForm_kindOfShift, if_pos c_1, if_neg c_5], ht⟩) (fun q h => by cases h) d_Shor_kindOfShift_13
    · skip
      refine lv_iconst (v := (-1)) hx hb d_Shor_kindOfShift_8 (by decide) ?_
      refine lv_goto (tgt := 13) hx hb d_Shor_kindOfShift_9 (by decide) ?_
      exact W.iret (v := (-1)) hx hb hr (fun t ht hW => ⟨_, rfl, by rw [cF_ShortForm_kindOfShift, if_pos c_1, if_pos c_5], ht⟩) (fun q h => by cases h) d_Shor_kindOfShift_13
def cF_ShortForm_kindOfPair (x0 : Int32) (x1 : Int32) : Int32 := (if x1 = 0 then (if x0 = 0 then 28 else (if x0 = 1 then 32 else (if x0 = 2 then 35 else 36))) else (-1))
set_option maxHeartbeats 4000000 in
set_option maxRecDepth 100000 in
theorem cc_ShortForm_kindOfPair (l : Launch) (D : va_G) (tc : Nat → ClassId) (tb : Nat → Nat) (z0 : Nat) (x0 : Int32) (x1 : Int32) : Met l y_Shor_kindOfPair (wM y_Shor_kindOfPair b_Shor_kindOfPair 2 (some .int)) ({ frames := 0, cells := 0, slots := 0, locals := 0 }) (va_Pc [.int x0, .int x1] (Pr D tc tb z0 [])) (vp_Si (fun r => r = (cF_ShortForm_kindOfPair x0 x1))) 0 0 (fun _ => False) := by
  refine Met.ofW (cc := b_Shor_kindOfPair) (maxL := 2) (ret := (some .int)) (by decide) rfl ?_
  intro p e s m args below meth c s₁ B hml hv
  obtain ⟨rfl, hP, hK, hB⟩ := hv
  have hx := B.exec
  have hb := B.bytes
  have hr := B.returns
  have hts : ∀ w ∈ wALL, w.before _ s = true := fun w h => atoms_spec (ws := (wM y_Shor_kindOfPair b_Shor_kindOfPair 2 (some .int))) B.pre w (List.mem_cons_of_mem _ h)
  have hown : s.vm.findClass "StepMachine$ShortForm" = some m.cls := findClass_of_methodNamed B.named
  have hlocks := B.notSynchronized
  have hl := lv_entry ([.int x0, .int x1]) (n := 2) (Nat.le_of_ble_eq_true rfl)
  rw [lg_entry_eq]
  generalize (lg_sl ([.int x0, .int x1]) ++ List.replicate (2 - (lg_sl ([.int x0, .int x1])).length) Slot.unset).toArray = ls at hl ⊢
  have hl : lv_has ls 2 [(0, .int x0), (1, .int x1)] := hl
  refine lv_iload_n hx hb d_Shor_kindOfPair_0 rfl (lv_at hl 1 rfl) ?_
  refine lv_if_eq (tgt := 6) hx hb d_Shor_kindOfPair_1 (by decide) (fun c_1 => ?_) (fun c_1 => ?_)
  · skip
    refine lv_iload_n hx hb d_Shor_kindOfPair_6 rfl (lv_at hl 0 rfl) ?_
    by_cases c_7_0 : x0 = 0
    · skip
      refine lv_tableIn (tgt := 32) hx hb d_Shor_kindOfPair_7 (by rw [c_7_0]; decide) (by rw [c_7_0]; decide) (by rw [c_7_0] <;> rfl) (by decide) ?_
      refine lv_bipush (v := 28) hx hb d_Shor_kindOfPair_32 (by decide) ?_
      exact W.iret (v := 28) hx hb hr (fun t ht hW => ⟨_, rfl, by rw [cF_ShortForm_kindOfPair, if_pos c_1, if_pos c_7_0], ht⟩) (fun q h => by cases h) d_Shor_kindOfPair_34
    · skip
      by_cases c_7_1 : x0 = 1
      · skip
        refine lv_tableIn (tgt := 35) hx hb d_Shor_kindOfPair_7 (by rw [c_7_1]; decide) (by rw [c_7_1]; decide) (by rw [c_7_1] <;> rfl) (by decide) ?_
        refine lv_bipush (v := 32) hx hb d_Shor_kindOfPair_35 (by decide) ?_
        exact W.iret (v := 32) hx hb hr (fun t ht hW => ⟨_, rfl, by rw [cF_ShortForm_kindOfPair, if_pos c_1, if_neg c_7_0, if_pos c_7_1], ht⟩) (fun q h => by cases h) d_Shor_kindOfPair_37
      · skip
        by_cases c_7_2 : x0 = 2
        · skip
          refine lv_tableIn (tgt := 38) hx hb d_Shor_kindOfPair_7 (by rw [c_7_2]; decide) (by rw [c_7_2]; decide) (by rw [c_7_2] <;> rfl) (by decide) ?_
          refine lv_bipush (v := 35) hx hb d_Shor_kindOfPair_38 (by decide) ?_
          exact W.iret (v := 35) hx hb hr (fun t ht hW => ⟨_, rfl, by rw [cF_ShortForm_kindOfPair, if_pos c_1, if_neg c_7_0, if_neg c_7_1, if_pos c_7_2], ht⟩) (fun q h => by cases h) d_Shor_kindOfPair_40
        · skip
          refine lv_tableOut (tgt := 41) hx hb d_Shor_kindOfPair_7 (by have n_0 := lv_neT (a := 0) c_7_0 (by decide); have n_1 := lv_neT (a := 1) c_7_1 (by decide); have n_2 := lv_neT (a := 2) c_7_2 (by decide); omega) (by decide) ?_
          refine lv_bipush (v := 36) hx hb d_Shor_kindOfPair_41 (by decide) ?_
          exact W.iret (v := 36) hx hb hr (fun t ht hW => ⟨_, rfl, by rw [cF_ShortForm_kindOfPair, if_pos c_1, if_neg c_7_0, if_neg c_7_1, if_neg c_7_2], ht⟩) (fun q h => by cases h) d_Shor_kindOfPair_43
  · skip
    refine lv_iconst (v := (-1)) hx hb d_Shor_kindOfPair_4 (by decide) ?_
    exact W.iret (v := (-1)) hx hb hr (fun t ht hW => ⟨_, rfl, by rw [cF_ShortForm_kindOfPair, if_neg c_1], ht⟩) (fun q h => by cases h) d_Shor_kindOfPair_5
def cF_ShortForm_shiftUp (x0 : Int32) (x1 : Int32) : Int32 := (if x1 = 0 then (-1) else (if ((j_ushr x0 12) &&& 1) = 0 then (cF_ShortForm_kindOfShift 24 0 ((j_ushr x0 2) &&& 31)) else (cF_ShortForm_kindOfShift 24 1 ((j_ushr x0 2) &&& 31))))
set_option maxHeartbeats 4000000 in
set_option maxRecDepth 100000 in
theorem cc_ShortForm_shiftUp (l : Launch) (D : va_G) (tc : Nat → ClassId) (tb : Nat → Nat) (z0 : Nat) (x0 : Int32) (x1 : Int32) : Met l y_Shor_shiftUp (wM y_Shor_shiftUp b_Shor_shiftUp 2 (some .int)) ({ frames := 1, cells := 0, slots := 0, locals := 22 }) (va_Pc [.int x0, .int x1] (Pr D tc tb z0 [])) (vp_Si (fun r => r = (cF_ShortForm_shiftUp x0 x1))) 0 0 (fun _ => False) := by
  refine Met.ofW (cc := b_Shor_shiftUp) (maxL := 2) (ret := (some .int)) (by decide) rfl ?_
  intro p e s m args below meth c s₁ B hml hv
  obtain ⟨rfl, hP, hK, hB⟩ := hv
  have hx := B.exec
  have hb := B.bytes
  have hr := B.returns
  have hts : ∀ w ∈ wALL, w.before _ s = true := fun w h => atoms_spec (ws := (wM y_Shor_shiftUp b_Shor_shiftUp 2 (some .int))) B.pre w (List.mem_cons_of_mem _ h)
  have hown : s.vm.findClass "StepMachine$ShortForm" = some m.cls := findClass_of_methodNamed B.named
  have hlocks := B.notSynchronized
  have hl := lv_entry ([.int x0, .int x1]) (n := 2) (Nat.le_of_ble_eq_true rfl)
  rw [lg_entry_eq]
  generalize (lg_sl ([.int x0, .int x1]) ++ List.replicate (2 - (lg_sl ([.int x0, .int x1])).length) Slot.unset).toArray = ls at hl ⊢
  have hl : lv_has ls 2 [(0, .int x0), (1, .int x1)] := hl
  refine lv_iload_n hx hb d_Shor_shiftUp_0 rfl (lv_at hl 1 rfl) ?_
  refine lv_if_ne (tgt := 8) hx hb d_Shor_shiftUp_1 (by decide) (fun c_1 => ?_) (fun c_1 => ?_)
  · skip
    refine lv_bipush (v := 24) hx hb d_Shor_shiftUp_8 (by decide) ?_
    refine lv_iload_n hx hb d_Shor_shiftUp_10 rfl (lv_at hl 0 rfl) ?_
    refine lv_bipush (v := 12) hx hb d_Shor_shiftUp_11 (by decide) ?_
    refine lv_iushr (v := (j_ushr x0 12)) hx hb d_Shor_shiftUp_13 rfl ?_
    refine lv_iconst (v := 1) hx hb d_Shor_shiftUp_14 (by decide) ?_
    refine lv_iand hx hb d_Shor_shiftUp_15 ?_
    refine lv_if_eq (tgt := 23) hx hb d_Shor_shiftUp_16 (by decide) (fun c_16 => ?_) (fun c_16 => ?_)
    · skip
      refine lv_iconst (v := 0) hx hb d_Shor_shiftUp_23 (by decide) ?_
      refine lv_iload_n hx hb d_Shor_shiftUp_24 rfl (lv_at hl 0 rfl) ?_
      refine lv_iconst (v := 2) hx hb d_Shor_shiftUp_25 (by decide) ?_
      refine lv_iushr (v := (j_ushr x0 2)) hx hb d_Shor_shiftUp_26 rfl ?_
      refine lv_bipush (v := 31) hx hb d_Shor_shiftUp_27 (by decide) ?_
      refine lv_iand hx hb d_Shor_shiftUp_29 ?_
      refine roSi (As := [.int 24, .int 0, .int ((j_ushr x0 2) &&& 31)]) (rest := []) ⟨hx, hb, hml, hown, hts⟩ (cc_ShortForm_kindOfShift l D tc tb z0 24 0 ((j_ushr x0 2) &&& 31)) (va_cwS 3 hts (goodS a_392 a_393 a_11 a_394) rfl rfl rfl hs_Shor_kindOfShift ⟨Nat.le_of_ble_eq_true rfl, Nat.le_of_ble_eq_true rfl⟩) (hP.sub [] rfl) hK hB rfl hl.1 rfl (Nat.le_of_ble_eq_true rfl) d_Shor_shiftUp_30 ⟨Nat.zero_le _, Nat.zero_le _⟩ ?_
      exact W.iret (v := (cF_ShortForm_kindOfShift 24 0 ((j_ushr x0 2) &&& 31))) hx hb hr (fun t ht hW => ⟨_, rfl, by rw [cF_ShortForm_shiftUp, if_neg c_1, if_pos c_16], ht⟩) (fun q h => by cases h) d_Shor_shiftUp_33
    · skip
      refine lv_iconst (v := 1) hx hb d_Shor_shiftUp_19 (by decide) ?_
      refine lv_goto (tgt := 24) hx hb d_Shor_shiftUp_20 (by decide) ?_
      refine lv_iload_n hx hb d_Shor_shiftUp_24 rfl (lv_at hl 0 rfl) ?_
      refine lv_iconst (v := 2) hx hb d_Shor_shiftUp_25 (by decide) ?_
      refine lv_iushr (v := (j_ushr x0 2)) hx hb d_Shor_shiftUp_26 rfl ?_
      refine lv_bipush (v := 31) hx hb d_Shor_shiftUp_27 (by decide) ?_
      refine lv_iand hx hb d_Shor_shiftUp_29 ?_
      refine roSi (As := [.int 24, .int 1, .int ((j_ushr x0 2) &&& 31)]) (rest := []) ⟨hx, hb, hml, hown, hts⟩ (cc_ShortForm_kindOfShift l D tc tb z0 24 1 ((j_ushr x0 2) &&& 31)) (va_cwS 3 hts (goodS a_392 a_393 a_11 a_394) rfl rfl rfl hs_Shor_kindOfShift ⟨Nat.le_of_ble_eq_true rfl, Nat.le_of_ble_eq_true rfl⟩) (hP.sub [] rfl) hK hB rfl hl.1 rfl (Nat.le_of_ble_eq_true rfl) d_Shor_shiftUp_30 ⟨Nat.zero_le _, Nat.zero_le _⟩ ?_
      exact W.iret (v := (cF_ShortForm_kindOfShift 24 1 ((j_ushr x0 2) &&& 31))) hx hb hr (fun t ht hW => ⟨_, rfl, by rw [cF_ShortForm_shiftUp, if_neg c_1, if_neg c_16], ht⟩) (fun q h => by cases h) d_Shor_shiftUp_33
  · skip
    refine lv_iconst (v := (-1)) hx hb d_Shor_shiftUp_4 (by decide) ?_
    refine lv_goto (tgt := 33) hx hb d_Shor_shiftUp_5 (by decide) ?_
    exact W.iret (v := (-1)) hx hb hr (fun t ht hW => ⟨_, rfl, by rw [cF_ShortForm_shiftUp, if_pos c_1], ht⟩) (fun q h => by cases h) d_Shor_shiftUp_33
def cF_ShortForm_readStackAddress_1  (q_47 : Int32 × Int32 × Int32 × Int32 × Int32) : Int32 × Int32 × Int32 × Int32 × Int32 := (q_47.1, q_47.2.1, q_47.2.2.1, q_47.2.2.2.1, q_47.2.2.2.2)
def cF_ShortForm_readStackAddress (w_k : Int32) (w_d : Int32) (w_a : Int32) (w_b : Int32) (w_i : Int32) (x0 : Int32) (x1 : Int32) : Int32 × Int32 × Int32 × Int32 × Int32 := (if ((((cF_Word_part x0 11 2 4) ||| (cF_Word_part x0 7 4 6)) ||| (cF_Word_part x0 6 1 2)) ||| (cF_Word_part x0 5 1 3)) = 0 then (w_k, w_d, w_a, w_b, w_i) else (cF_ShortForm_readStackAddress_1 (cF_Word_is 18 x1 2 0 ((((cF_Word_part x0 11 2 4) ||| (cF_Word_part x0 7 4 6)) ||| (cF_Word_part x0 6 1 2)) ||| (cF_Word_part x0 5 1 3)))))
set_option maxHeartbeats 4000000 in
set_option maxRecDepth 100000 in
theorem cc_ShortForm_readStackAddress (l : Launch) (D : va_G) (tc : Nat → ClassId) (tb : Nat → Nat) (z0 : Nat) (sz : Nat) (a_w : Nat) (w_n : Int32) (w_k : Int32) (w_d : Int32) (w_a : Int32) (w_b : Int32) (w_i : Int32) (x0 : Int32) (x1 : Int32) : Met l y_Shor_readStackAddress (wM y_Shor_readStackAddress b_Shor_readStackAddress 4 none) ({ frames := 1, cells := 0, slots := 0, locals := 25 }) (va_Pc [.int x0, .int x1, .ref a_w] (Pw D tc tb z0 [(a_w, .inr (4, [.int w_n, .int w_k, .int w_d, .int w_a, .int w_b, .int w_i]))] sz)) (va_Qv (fun u : Int32 × Int32 × Int32 × Int32 × Int32 => u = (cF_ShortForm_readStackAddress w_k w_d w_a w_b w_i x0 x1)) (Bw D tc (va_A [(a_w, .inr (4, [.int w_n, .int w_k, .int w_d, .int w_a, .int w_b, .int w_i]))] sz) (fun u => [(a_w, .inr (4, [.int w_n, .int u.1, .int u.2.1, .int u.2.2.1, .int u.2.2.2.1, .int u.2.2.2.2]))])) (va_A [(a_w, .inr (4, [.int w_n, .int w_k, .int w_d, .int w_a, .int w_b, .int w_i]))] sz)) 0 0 (va_A [(a_w, .inr (4, [.int w_n, .int w_k, .int w_d, .int w_a, .int w_b, .int w_i]))] sz) := by
  refine Met.ofW (cc := b_Shor_readStackAddress) (maxL := 4) (ret := none) (by decide) rfl ?_
  intro p e s m args below meth c s₁ B hml hv
  obtain ⟨rfl, hsz, hP, hK, hB, hD0, hZ0⟩ := hv
  have hx := B.exec
  have hb := B.bytes
  have hr := B.returns
  have hts : ∀ w ∈ wALL, w.before _ s = true := fun w h => atoms_spec (ws := (wM y_Shor_readStackAddress b_Shor_readStackAddress 4 none)) B.pre w (List.mem_cons_of_mem _ h)
  have hown : s.vm.findClass "StepMachine$ShortForm" = some m.cls := findClass_of_methodNamed B.named
  have hlocks := B.notSynchronized
  subst hsz
  have hD := hD0.self (sz := s.heap.size)
  generalize hAe : va_A [(a_w, .inr (4, [.int w_n, .int w_k, .int w_d, .int w_a, .int w_b, .int w_i]))] s.heap.size = A at hD ⊢
  have hZ : ∀ q : Nat, A q → z0 ≤ q := by rw [← hAe]; exact hZ0
  have hA : ∀ q : Nat, s.heap.size ≤ q → A q := fun q h => by rw [← hAe]; exact Or.inr h
  have hS : va_S A s.heap s.heap [] := va_S.rf
  have hl := lv_entry ([.int x0, .int x1, .ref a_w]) (n := 4) (Nat.le_of_ble_eq_true rfl)
  rw [lg_entry_eq]
  generalize (lg_sl ([.int x0, .int x1, .ref a_w]) ++ List.replicate (4 - (lg_sl ([.int x0, .int x1, .ref a_w])).length) Slot.unset).toArray = ls at hl ⊢
  have hl : lv_has ls 4 [(0, .int x0), (1, .int x1), (2, .ref a_w)] := hl
  refine lv_iload_n hx hb d_Shor_readStackAddress_0 rfl (lv_at hl 0 rfl) ?_
  refine lv_bipush (v := 11) hx hb d_Shor_readStackAddress_1 (by decide) ?_
  refine lv_iconst (v := 2) hx hb d_Shor_readStackAddress_3 (by decide) ?_
  refine lv_iconst (v := 4) hx hb d_Shor_readStackAddress_4 (by decide) ?_
  refine roSi (As := [.int x0, .int 11, .int 2, .int 4]) (rest := []) ⟨hx, hb, hml, hown, hts⟩ (cc_Word_part l D tc tb z0 x0 11 2 4) (va_cwS 4 hts (goodS a_363 a_364 a_9 a_365) rfl rfl rfl hs_Word_part ⟨Nat.le_of_ble_eq_true rfl, Nat.le_of_ble_eq_true rfl⟩) (hP.sub [] rfl) hK (hB.kept hS hZ) rfl hl.1 rfl (Nat.le_of_ble_eq_true rfl) d_Shor_readStackAddress_5 ⟨Nat.zero_le _, Nat.zero_le _⟩ ?_
  refine lv_iload_n hx hb d_Shor_readStackAddress_8 rfl (lv_at hl 0 rfl) ?_
  refine lv_bipush (v := 7) hx hb d_Shor_readStackAddress_9 (by decide) ?_
  refine lv_iconst (v := 4) hx hb d_Shor_readStackAddress_11 (by decide) ?_
  refine lv_bipush (v := 6) hx hb d_Shor_readStackAddress_12 (by decide) ?_
  refine roSi (As := [.int x0, .int 7, .int 4, .int 6]) (rest := [.int (cF_Word_part x0 11 2 4)]) ⟨hx, hb, hml, hown, hts⟩ (cc_Word_part l D tc tb z0 x0 7 4 6) (va_cwS 4 hts (goodS a_363 a_364 a_9 a_365) rfl rfl rfl hs_Word_part ⟨Nat.le_of_ble_eq_true rfl, Nat.le_of_ble_eq_true rfl⟩) (hP.sub [] rfl) hK (hB.kept hS hZ) rfl hl.1 rfl (Nat.le_of_ble_eq_true rfl) d_Shor_readStackAddress_14 ⟨Nat.zero_le _, Nat.zero_le _⟩ ?_
  refine lv_ior hx hb d_Shor_readStackAddress_17 ?_
  refine lv_iload_n hx hb d_Shor_readStackAddress_18 rfl (lv_at hl 0 rfl) ?_
  refine lv_bipush (v := 6) hx hb d_Shor_readStackAddress_19 (by decide) ?_
  refine lv_iconst (v := 1) hx hb d_Shor_readStackAddress_21 (by decide) ?_
  refine lv_iconst (v := 2) hx hb d_Shor_readStackAddress_22 (by decide) ?_
  refine roSi (As := [.int x0, .int 6, .int 1, .int 2]) (rest := [.int ((cF_Word_part x0 11 2 4) ||| (cF_Word_part x0 7 4 6))]) ⟨hx, hb, hml, hown, hts⟩ (cc_Word_part l D tc tb z0 x0 6 1 2) (va_cwS 4 hts (goodS a_363 a_364 a_9 a_365) rfl rfl rfl hs_Word_part ⟨Nat.le_of_ble_eq_true rfl, Nat.le_of_ble_eq_true rfl⟩) (hP.sub [] rfl) hK (hB.kept hS hZ) rfl hl.1 rfl (Nat.le_of_ble_eq_true rfl) d_Shor_readStackAddress_23 ⟨Nat.zero_le _, Nat.zero_le _⟩ ?_
  refine lv_ior hx hb d_Shor_readStackAddress_26 ?_
  refine lv_iload_n hx hb d_Shor_readStackAddress_27 rfl (lv_at hl 0 rfl) ?_
  refine lv_iconst (v := 5) hx hb d_Shor_readStackAddress_28 (by decide) ?_
  refine lv_iconst (v := 1) hx hb d_Shor_readStackAddress_29 (by decide) ?_
  refine lv_iconst (v := 3) hx hb d_Shor_readStackAddress_30 (by decide) ?_
  refine roSi (As := [.int x0, .int 5, .int 1, .int 3]) (rest := [.int (((cF_Word_part x0 11 2 4) ||| (cF_Word_part x0 7 4 6)) ||| (cF_Word_part x0 6 1 2))]) ⟨hx, hb, hml, hown, hts⟩ (cc_Word_part l D tc tb z0 x0 5 1 3) (va_cwS 4 hts (goodS a_363 a_364 a_9 a_365) rfl rfl rfl hs_Word_part ⟨Nat.le_of_ble_eq_true rfl, Nat.le_of_ble_eq_true rfl⟩) (hP.sub [] rfl) hK (hB.kept hS hZ) rfl hl.1 rfl (Nat.le_of_ble_eq_true rfl) d_Shor_readStackAddress_31 ⟨Nat.zero_le _, Nat.zero_le _⟩ ?_
  refine lv_ior hx hb d_Shor_readStackAddress_34 ?_
  refine lv_istore_n (lv' := [(3, .int ((((cF_Word_part x0 11 2 4) ||| (cF_Word_part x0 7 4 6)) ||| (cF_Word_part x0 6 1 2)) ||| (cF_Word_part x0 5 1 3))), (0, .int x0), (1, .int x1), (2, .ref a_w)]) hx hb d_Shor_readStackAddress_35 rfl hl (by decide) rfl (fun ls hl => ?_)
  refine lv_iload_n hx hb d_Shor_readStackAddress_36 rfl (lv_at hl 0 rfl) ?_
  refine lv_if_eq (tgt := 50) hx hb d_Shor_readStackAddress_37 (by decide) (fun c_37 => ?_) (fun c_37 => ?_)
  · skip
    exact W.vret hx hb hr (fun t ht hW => ⟨⟨(w_k, w_d, w_a, w_b, w_i), rfl, by rw [cF_ShortForm_readStackAddress, if_pos c_37], by rw [ht]; exact hP, va_K.moved hW.alike hK, hD⟩, hS.F ht⟩) hS.2.2 d_Shor_readStackAddress_50
  · skip
    refine lv_aload_n hx hb d_Shor_readStackAddress_40 rfl (lv_at hl 3 rfl) ?_
    refine lv_bipush (v := 18) hx hb d_Shor_readStackAddress_41 (by decide) ?_
    refine lv_iload_n hx hb d_Shor_readStackAddress_43 rfl (lv_at hl 2 rfl) ?_
    refine lv_iconst (v := 2) hx hb d_Shor_readStackAddress_44 (by decide) ?_
    refine lv_iconst (v := 0) hx hb d_Shor_readStackAddress_45 (by decide) ?_
    refine lv_iload_n hx hb d_Shor_readStackAddress_46 rfl (lv_at hl 0 rfl) ?_
    obtain ⟨q_47, e_47⟩ : ∃ z, z = (cF_Word_is 18 x1 2 0 ((((cF_Word_part x0 11 2 4) ||| (cF_Word_part x0 7 4 6)) ||| (cF_Word_part x0 6 1 2)) ||| (cF_Word_part x0 5 1 3))) := ⟨_, rfl⟩
    refine wVv (As := [.int 18, .int x1, .int 2, .int 0, .int ((((cF_Word_part x0 11 2 4) ||| (cF_Word_part x0 7 4 6)) ||| (cF_Word_part x0 6 1 2)) ||| (cF_Word_part x0 5 1 3))]) (rest := []) e_47 ⟨hx, hb, hml, hown, hts⟩ (cc_Word_is l D tc tb z0 _ a_w w_n w_k w_d w_a w_b w_i 18 x1 2 0 ((((cF_Word_part x0 11 2 4) ||| (cF_Word_part x0 7 4 6)) ||| (cF_Word_part x0 6 1 2)) ||| (cF_Word_part x0 5 1 3))) (cwV 5 hts (goodV a_369 a_357 a_358 a_9 a_359) rfl rfl rfl hv_Word_is ⟨Nat.le_of_ble_eq_true rfl, Nat.le_of_ble_eq_true rfl⟩) hP hD hS hA hZ hK hB [0] rfl (by decide) (fun _ => rfl) rfl rfl rfl hl.1 rfl (Nat.le_of_ble_eq_true rfl) d_Shor_readStackAddress_47 ⟨Nat.zero_le _, Nat.zero_le _⟩ (fun H locs hP hD hS => ?_)
    have hP : va_P D vwCl [(a_w, .inr (4, [.int w_n, .int q_47.1, .int q_47.2.1, .int q_47.2.2.1, .int q_47.2.2.2.1, .int q_47.2.2.2.2]))] H := hP
    have hD : va_D A [(a_w, .inr (4, [.int w_n, .int q_47.1, .int q_47.2.1, .int q_47.2.2.1, .int q_47.2.2.2.1, .int q_47.2.2.2.2]))] := hD
    exact W.vret hx hb hr (fun t ht hW => ⟨⟨(q_47.1, q_47.2.1, q_47.2.2.1, q_47.2.2.2.1, q_47.2.2.2.2), rfl, by rw [cF_ShortForm_readStackAddress, if_neg c_37, ← e_47, cF_ShortForm_readStackAddress_1], by rw [ht]; exact hP, va_K.moved hW.alike hK, hD⟩, hS.F ht⟩) hS.2.2 d_Shor_readStackAddress_50
def cF_ShortForm_readFirst_1  (q_91 : Int32 × Int32 × Int32 × Int32 × Int32) : Int32 × Int32 × Int32 × Int32 × Int32 := (q_91.1, q_91.2.1, q_91.2.2.1, q_91.2.2.2.1, q_91.2.2.2.2)
def cF_ShortForm_readFirst_2  (q_105 : Int32 × Int32 × Int32 × Int32 × Int32) : Int32 × Int32 × Int32 × Int32 × Int32 := (q_105.1, q_105.2.1, q_105.2.2.1, q_105.2.2.2.1, q_105.2.2.2.2)
def cF_ShortForm_readFirst_3  (q_119 : Int32 × Int32 × Int32 × Int32 × Int32) : Int32 × Int32 × Int32 × Int32 × Int32 := (q_119.1, q_119.2.1, q_119.2.2.1, q_119.2.2.2.1, q_119.2.2.2.2)
def cF_ShortForm_readFirst (w_k : Int32) (w_d : Int32) (w_a : Int32) (w_b : Int32) (w_i : Int32) (x0 : Int32) : Int32 × Int32 × Int32 × Int32 × Int32 := (if (j_ushr x0 13) = 0 then (cF_ShortForm_readFirst_1 (cF_ShortForm_readStackAddress w_k w_d w_a w_b w_i x0 (8 + ((j_ushr x0 2) &&& 7)))) else (if (j_ushr x0 13) = 2 then (cF_ShortForm_readFirst_2 (cF_Word_is 12 (8 + ((j_ushr x0 2) &&& 7)) (8 + ((j_ushr x0 7) &&& 7)) 0 (((cF_Word_part x0 10 3 3) ||| (cF_Word_part x0 6 1 2)) ||| (cF_Word_part x0 5 1 6)))) else (if (j_ushr x0 13) = 6 then (cF_ShortForm_readFirst_3 (cF_Word_is 17 0 (8 + ((j_ushr x0 7) &&& 7)) (8 + ((j_ushr x0 2) &&& 7)) (((cF_Word_part x0 10 3 3) ||| (cF_Word_part x0 6 1 2)) ||| (cF_Word_part x0 5 1 6)))) else (w_k, w_d, w_a, w_b, w_i))))
set_option maxHeartbeats 4000000 in
set_option maxRecDepth 100000 in
theorem cc_ShortForm_readFirst (l : Launch) (D : va_G) (tc : Nat → ClassId) (tb : Nat → Nat) (z0 : Nat) (sz : Nat) (a_w : Nat) (w_n : Int32) (w_k : Int32) (w_d : Int32) (w_a : Int32) (w_b : Int32) (w_i : Int32) (x0 : Int32) : Met l y_Shor_readFirst (wM y_Shor_readFirst b_Shor_readFirst 5 none) ({ frames := 2, cells := 0, slots := 0, locals := 48 }) (va_Pc [.int x0, .ref a_w] (Pw D tc tb z0 [(a_w, .inr (4, [.int w_n, .int w_k, .int w_d, .int w_a, .int w_b, .int w_i]))] sz)) (va_Qv (fun u : Int32 × Int32 × Int32 × Int32 × Int32 => u = (cF_ShortForm_readFirst w_k w_d w_a w_b w_i x0)) (Bw D tc (va_A [(a_w, .inr (4, [.int w_n, .int w_k, .int w_d, .int w_a, .int w_b, .int w_i]))] sz) (fun u => [(a_w, .inr (4, [.int w_n, .int u.1, .int u.2.1, .int u.2.2.1, .int u.2.2.2.1, .int u.2.2.2.2]))])) (va_A [(a_w, .inr (4, [.int w_n, .int w_k, .int w_d, .int w_a, .int w_b, .int w_i]))] sz)) 0 0 (va_A [(a_w, .inr (4, [.int w_n, .int w_k, .int w_d, .int w_a, .int w_b, .int w_i]))] sz) := by
  refine Met.ofW (cc := b_Shor_readFirst) (maxL := 5) (ret := none) (by decide) rfl ?_
  intro p e s m args below meth c s₁ B hml hv
  obtain ⟨rfl, hsz, hP, hK, hB, hD0, hZ0⟩ := hv
  have hx := B.exec
  have hb := B.bytes
  have hr := B.returns
  have hts : ∀ w ∈ wALL, w.before _ s = true := fun w h => atoms_spec (ws := (wM y_Shor_readFirst b_Shor_readFirst 5 none)) B.pre w (List.mem_cons_of_mem _ h)
  have hown : s.vm.findClass "StepMachine$ShortForm" = some m.cls := findClass_of_methodNamed B.named
  have hlocks := B.notSynchronized
  subst hsz
  have hD := hD0.self (sz := s.heap.size)
  generalize hAe : va_A [(a_w, .inr (4, [.int w_n, .int w_k, .int w_d, .int w_a, .int w_b, .int w_i]))] s.heap.size = A at hD ⊢
  have hZ : ∀ q : Nat, A q → z0 ≤ q := by rw [← hAe]; exact hZ0
  have hA : ∀ q : Nat, s.heap.size ≤ q → A q := fun q h => by rw [← hAe]; exact Or.inr h
  have hS : va_S A s.heap s.heap [] := va_S.rf
  have hl := lv_entry ([.int x0, .ref a_w]) (n := 5) (Nat.le_of_ble_eq_true rfl)
  rw [lg_entry_eq]
  generalize (lg_sl ([.int x0, .ref a_w]) ++ List.replicate (5 - (lg_sl ([.int x0, .ref a_w])).length) Slot.unset).toArray = ls at hl ⊢
  have hl : lv_has ls 5 [(0, .int x0), (1, .ref a_w)] := hl
  refine lv_bipush (v := 8) hx hb d_Shor_readFirst_0 (by decide) ?_
  refine lv_iload_n hx hb d_Shor_readFirst_2 rfl (lv_at hl 0 rfl) ?_
  refine lv_iconst (v := 2) hx hb d_Shor_readFirst_3 (by decide) ?_
  refine lv_iushr (v := (j_ushr x0 2)) hx hb d_Shor_readFirst_4 rfl ?_
  refine lv_bipush (v := 7) hx hb d_Shor_readFirst_5 (by decide) ?_
  refine lv_iand hx hb d_Shor_readFirst_7 ?_
  refine lv_iadd hx hb d_Shor_readFirst_8 ?_
  refine lv_istore_n (lv' := [(2, .int (8 + ((j_ushr x0 2) &&& 7))), (0, .int x0), (1, .ref a_w)]) hx hb d_Shor_readFirst_9 rfl hl (by decide) rfl (fun ls hl => ?_)
  refine lv_bipush (v := 8) hx hb d_Shor_readFirst_10 (by decide) ?_
  refine lv_iload_n hx hb d_Shor_readFirst_12 rfl (lv_at hl 1 rfl) ?_
  refine lv_bipush (v := 7) hx hb d_Shor_readFirst_13 (by decide) ?_
  refine lv_iushr (v := (j_ushr x0 7)) hx hb d_Shor_readFirst_15 rfl ?_
  refine lv_bipush (v := 7) hx hb d_Shor_readFirst_16 (by decide) ?_
  refine lv_iand hx hb d_Shor_readFirst_18 ?_
  refine lv_iadd hx hb d_Shor_readFirst_19 ?_
  refine lv_istore_n (lv' := [(3, .int (8 + ((j_ushr x0 7) &&& 7))), (2, .int (8 + ((j_ushr x0 2) &&& 7))), (0, .int x0), (1, .ref a_w)]) hx hb d_Shor_readFirst_20 rfl hl (by decide) rfl (fun ls hl => ?_)
  refine lv_iload_n hx hb d_Shor_readFirst_21 rfl (lv_at hl 2 rfl) ?_
  refine lv_bipush (v := 10) hx hb d_Shor_readFirst_22 (by decide) ?_
  refine lv_iconst (v := 3) hx hb d_Shor_readFirst_24 (by decide) ?_
  refine lv_iconst (v := 3) hx hb d_Shor_readFirst_25 (by decide) ?_
  refine roSi (As := [.int x0, .int 10, .int 3, .int 3]) (rest := []) ⟨hx, hb, hml, hown, hts⟩ (cc_Word_part l D tc tb z0 x0 10 3 3) (va_cwS 4 hts (goodS a_363 a_364 a_9 a_365) rfl rfl rfl hs_Word_part ⟨Nat.le_of_ble_eq_true rfl, Nat.le_of_ble_eq_true rfl⟩) (hP.sub [] rfl) hK (hB.kept hS hZ) rfl hl.1 rfl (Nat.le_of_ble_eq_true rfl) d_Shor_readFirst_26 ⟨Nat.zero_le _, Nat.zero_le _⟩ ?_
  refine lv_iload_n hx hb d_Shor_readFirst_29 rfl (lv_at hl 2 rfl) ?_
  refine lv_bipush (v := 6) hx hb d_Shor_readFirst_30 (by decide) ?_
  refine lv_iconst (v := 1) hx hb d_Shor_readFirst_32 (by decide) ?_
  refine lv_iconst (v := 2) hx hb d_Shor_readFirst_33 (by decide) ?_
  refine roSi (As := [.int x0, .int 6, .int 1, .int 2]) (rest := [.int (cF_Word_part x0 10 3 3)]) ⟨hx, hb, hml, hown, hts⟩ (cc_Word_part l D tc tb z0 x0 6 1 2) (va_cwS 4 hts (goodS a_363 a_364 a_9 a_365) rfl rfl rfl hs_Word_part ⟨Nat.le_of_ble_eq_true rfl, Nat.le_of_ble_eq_true rfl⟩) (hP.sub [] rfl) hK (hB.kept hS hZ) rfl hl.1 rfl (Nat.le_of_ble_eq_true rfl) d_Shor_readFirst_34 ⟨Nat.zero_le _, Nat.zero_le _⟩ ?_
  refine lv_ior hx hb d_Shor_readFirst_37 ?_
  refine lv_iload_n hx hb d_Shor_readFirst_38 rfl (lv_at hl 2 rfl) ?_
  refine lv_iconst (v := 5) hx hb d_Shor_readFirst_39 (by decide) ?_
  refine lv_iconst (v := 1) hx hb d_Shor_readFirst_40 (by decide) ?_
  refine lv_bipush (v := 6) hx hb d_Shor_readFirst_41 (by decide) ?_
  refine roSi (As := [.int x0, .int 5, .int 1, .int 6]) (rest := [.int ((cF_Word_part x0 10 3 3) ||| (cF_Word_part x0 6 1 2))]) ⟨hx, hb, hml, hown, hts⟩ (cc_Word_part l D tc tb z0 x0 5 1 6) (va_cwS 4 hts (goodS a_363 a_364 a_9 a_365) rfl rfl rfl hs_Word_part ⟨Nat.le_of_ble_eq_true rfl, Nat.le_of_ble_eq_true rfl⟩) (hP.sub [] rfl) hK (hB.kept hS hZ) rfl hl.1 rfl (Nat.le_of_ble_eq_true rfl) d_Shor_readFirst_43 ⟨Nat.zero_le _, Nat.zero_le _⟩ ?_
  refine lv_ior hx hb d_Shor_readFirst_46 ?_
  refine lv_istore (lv' := [(4, .int (((cF_Word_part x0 10 3 3) ||| (cF_Word_part x0 6 1 2)) ||| (cF_Word_part x0 5 1 6))), (3, .int (8 + ((j_ushr x0 7) &&& 7))), (2, .int (8 + ((j_ushr x0 2) &&& 7))), (0, .int x0), (1, .ref a_w)]) hx hb d_Shor_readFirst_47 hl (by decide) rfl (fun ls hl => ?_)
  refine lv_iload_n hx hb d_Shor_readFirst_49 rfl (lv_at hl 3 rfl) ?_
  refine lv_bipush (v := 13) hx hb d_Shor_readFirst_50 (by decide) ?_
  refine lv_iushr (v := (j_ushr x0 13)) hx hb d_Shor_readFirst_52 rfl ?_
  by_cases c_53_0 : (j_ushr x0 13) = 0
  · skip
    refine lv_lookup (off := 35) (tgt := 88) hx hb d_Shor_readFirst_53 (by decide) (by rw [c_53_0] <;> rfl) (by decide) ?_
    refine lv_iload_n hx hb d_Shor_readFirst_88 rfl (lv_at hl 3 rfl) ?_
    refine lv_iload_n hx hb d_Shor_readFirst_89 rfl (lv_at hl 2 rfl) ?_
    refine lv_aload_n hx hb d_Shor_readFirst_90 rfl (lv_at hl 4 rfl) ?_
    obtain ⟨q_91, e_91⟩ : ∃ z, z = (cF_ShortForm_readStackAddress w_k w_d w_a w_b w_i x0 (8 + ((j_ushr x0 2) &&& 7))) := ⟨_, rfl⟩
    refine wSv (As := [.int x0, .int (8 + ((j_ushr x0 2) &&& 7)), .ref a_w]) (rest := []) e_91 ⟨hx, hb, hml, hown, hts⟩ (cc_ShortForm_readStackAddress l D tc tb z0 _ a_w w_n w_k w_d w_a w_b w_i x0 (8 + ((j_ushr x0 2) &&& 7))) (va_cwS 3 hts (goodS a_366 a_367 a_11 a_368) rfl rfl rfl hs_Shor_readStackAddress ⟨Nat.le_of_ble_eq_true rfl, Nat.le_of_ble_eq_true rfl⟩) hP hD hS hA hZ hK hB [0] rfl (by decide) (fun _ => rfl) rfl hl.1 rfl (Nat.le_of_ble_eq_true rfl) d_Shor_readFirst_91 ⟨Nat.zero_le _, Nat.zero_le _⟩ (fun H locs hP hD hS => ?_)
    have hP : va_P D vwCl [(a_w, .inr (4, [.int w_n, .int q_91.1, .int q_91.2.1, .int q_91.2.2.1, .int q_91.2.2.2.1, .int q_91.2.2.2.2]))] H := hP
    have hD : va_D A [(a_w, .inr (4, [.int w_n, .int q_91.1, .int q_91.2.1, .int q_91.2.2.1, .int q_91.2.2.2.1, .int q_91.2.2.2.2]))] := hD
    refine lv_goto (tgt := 125) hx hb d_Shor_readFirst_94 (by decide) ?_
    exact W.vret hx hb hr (fun t ht hW => ⟨⟨(q_91.1, q_91.2.1, q_91.2.2.1, q_91.2.2.2.1, q_91.2.2.2.2), rfl, by rw [cF_ShortForm_readFirst, if_pos c_53_0, ← e_91, cF_ShortForm_readFirst_1], by rw [ht]; exact hP, va_K.moved hW.alike hK, hD⟩, hS.F ht⟩) hS.2.2 d_Shor_readFirst_125
  · skip
    by_cases c_53_1 : (j_ushr x0 13) = 2
    · skip
      refine lv_lookup (off := 44) (tgt := 97) hx hb d_Shor_readFirst_53 (by decide) (by rw [c_53_1] <;> rfl) (by decide) ?_
      refine lv_aload_n hx hb d_Shor_readFirst_97 rfl (lv_at hl 4 rfl) ?_
      refine lv_bipush (v := 12) hx hb d_Shor_readFirst_98 (by decide) ?_
      refine lv_iload_n hx hb d_Shor_readFirst_100 rfl (lv_at hl 2 rfl) ?_
      refine lv_iload_n hx hb d_Shor_readFirst_101 rfl (lv_at hl 1 rfl) ?_
      refine lv_iconst (v := 0) hx hb d_Shor_readFirst_102 (by decide) ?_
      refine lv_iload hx hb d_Shor_readFirst_103 (lv_at hl 0 rfl) ?_
      obtain ⟨q_105, e_105⟩ : ∃ z, z = (cF_Word_is 12 (8 + ((j_ushr x0 2) &&& 7)) (8 + ((j_ushr x0 7) &&& 7)) 0 (((cF_Word_part x0 10 3 3) ||| (cF_Word_part x0 6 1 2)) ||| (cF_Word_part x0 5 1 6))) := ⟨_, rfl⟩
      refine wVv (As := [.int 12, .int (8 + ((j_ushr x0 2) &&& 7)), .int (8 + ((j_ushr x0 7) &&& 7)), .int 0, .int (((cF_Word_part x0 10 3 3) ||| (cF_Word_part x0 6 1 2)) ||| (cF_Word_part x0 5 1 6))]) (rest := []) e_105 ⟨hx, hb, hml, hown, hts⟩ (cc_Word_is l D tc tb z0 _ a_w w_n w_k w_d w_a w_b w_i 12 (8 + ((j_ushr x0 2) &&& 7)) (8 + ((j_ushr x0 7) &&& 7)) 0 (((cF_Word_part x0 10 3 3) ||| (cF_Word_part x0 6 1 2)) ||| (cF_Word_part x0 5 1 6))) (cwV 5 hts (goodV a_369 a_357 a_358 a_9 a_359) rfl rfl rfl hv_Word_is ⟨Nat.le_of_ble_eq_true rfl, Nat.le_of_ble_eq_true rfl⟩) hP hD hS hA hZ hK hB [0] rfl (by decide) (fun _ => rfl) rfl rfl rfl hl.1 rfl (Nat.le_of_ble_eq_true rfl) d_Shor_readFirst_105 ⟨Nat.zero_le _, Nat.zero_le _⟩ (fun H locs hP hD hS => ?_)
      have hP : va_P D vwCl [(a_w, .inr (4, [.int w_n, .int q_105.1, .int q_105.2.1, .int q_105.2.2.1, .int q_105.2.2.2.1, .int q_105.2.2.2.2]))] H := hP
      have hD : va_D A [(a_w, .inr (4, [.int w_n, .int q_105.1, .int q_105.2.1, .int q_105.2.2.1, .int q_105.2.2.2.1, .int q_105.2.2.2.2]))] := hD
      refine lv_goto (tgt := 125) hx hb d_Shor_readFirst_108 (by decide) ?_
      exact W.vret hx hb hr (fun t ht hW => ⟨⟨(q_105.1, q_105.2.1, q_105.2.2.1, q_105.2.2.2.1, q_105.2.2.2.2), rfl, by rw [cF_ShortForm_readFirst, if_neg c_53_0, if_pos c_53_1, ← e_105, cF_ShortForm_readFirst_2], by rw [ht]; exact hP, va_K.moved hW.alike hK, hD⟩, hS.F ht⟩) hS.2.2 d_Shor_readFirst_125
    · skip
      by_cases c_53_2 : (j_ushr x0 13) = 6
      · skip
        refine lv_lookup (off := 58) (tgt := 111) hx hb d_Shor_readFirst_53 (by decide) (by rw [c_53_2] <;> rfl) (by decide) ?_
        refine lv_aload_n hx hb d_Shor_readFirst_111 rfl (lv_at hl 4 rfl) ?_
        refine lv_bipush (v := 17) hx hb d_Shor_readFirst_112 (by decide) ?_
        refine lv_iconst (v := 0) hx hb d_Shor_readFirst_114 (by decide) ?_
        refine lv_iload_n hx hb d_Shor_readFirst_115 rfl (lv_at hl 1 rfl) ?_
        refine lv_iload_n hx hb d_Shor_readFirst_116 rfl (lv_at hl 2 rfl) ?_
        refine lv_iload hx hb d_Shor_readFirst_117 (lv_at hl 0 rfl) ?_
        obtain ⟨q_119, e_119⟩ : ∃ z, z = (cF_Word_is 17 0 (8 + ((j_ushr x0 7) &&& 7)) (8 + ((j_ushr x0 2) &&& 7)) (((cF_Word_part x0 10 3 3) ||| (cF_Word_part x0 6 1 2)) ||| (cF_Word_part x0 5 1 6))) := ⟨_, rfl⟩
        refine wVv (As := [.int 17, .int 0, .int (8 + ((j_ushr x0 7) &&& 7)), .int (8 + ((j_ushr x0 2) &&& 7)), .int (((cF_Word_part x0 10 3 3) ||| (cF_Word_part x0 6 1 2)) ||| (cF_Word_part x0 5 1 6))]) (rest := []) e_119 ⟨hx, hb, hml, hown, hts⟩ (cc_Word_is l D tc tb z0 _ a_w w_n w_k w_d w_a w_b w_i 17 0 (8 + ((j_ushr x0 7) &&& 7)) (8 + ((j_ushr x0 2) &&& 7)) (((cF_Word_part x0 10 3 3) ||| (cF_Word_part x0 6 1 2)) ||| (cF_Word_part x0 5 1 6))) (cwV 5 hts (goodV a_369 a_357 a_358 a_9 a_359) rfl rfl rfl hv_Word_is ⟨Nat.le_of_ble_eq_true rfl, Nat.le_of_ble_eq_true rfl⟩) hP hD hS hA hZ hK hB [0] rfl (by decide) (fun _ => rfl) rfl rfl rfl hl.1 rfl (Nat.le_of_ble_eq_true rfl) d_Shor_readFirst_119 ⟨Nat.zero_le _, Nat.zero_le _⟩ (fun H locs hP hD hS => ?_)
        have hP : va_P D vwCl [(a_w, .inr (4, [.int w_n, .int q_119.1, .int q_119.2.1, .int q_119.2.2.1, .int q_119.2.2.2.1, .int q_119.2.2.2.2]))] H := hP
        have hD : va_D A [(a_w, .inr (4, [.int w_n, .int q_119.1, .int q_119.2.1, .int q_119.2.2.1, .int q_119.2.2.2.1, .int q_119.2.2.2.2]))] := hD
        refine lv_goto (tgt := 125) hx hb d_Shor_readFirst_122 (by decide) ?_
        exact W.vret hx hb hr (fun t ht hW => ⟨⟨(q_119.1, q_119.2.1, q_119.2.2.1, q_119.2.2.2.1, q_119.2.2.2.2), rfl, by rw [cF_ShortForm_readFirst, if_neg c_53_0, if_neg c_53_1, if_pos c_53_2, ← e_119, cF_ShortForm_readFirst_3], by rw [ht]; exact hP, va_K.moved hW.alike hK, hD⟩, hS.F ht⟩) hS.2.2 d_Shor_readFirst_125
      · skip
        refine lv_lookup (off := 72) (tgt := 125) hx hb d_Shor_readFirst_53 (by decide) ((lv_osw (k := 0) c_53_0 (by decide)).trans <| (lv_osw (k := 2) c_53_1 (by decide)).trans <| (lv_osw (k := 6) c_53_2 (by decide)).trans <| rfl) (by decide) ?_
        exact W.vret hx hb hr (fun t ht hW => ⟨⟨(w_k, w_d, w_a, w_b, w_i), rfl, by rw [cF_ShortForm_readFirst, if_neg c_53_0, if_neg c_53_1, if_neg c_53_2], by rw [ht]; exact hP, va_K.moved hW.alike hK, hD⟩, hS.F ht⟩) hS.2.2 d_Shor_readFirst_125
def cF_ShortForm_readAddition_1  (q_20 : Int32 × Int32 × Int32 × Int32 × Int32) : Int32 × Int32 × Int32 × Int32 × Int32 := (q_20.1, q_20.2.1, q_20.2.2.1, q_20.2.2.2.1, q_20.2.2.2.2)
def cF_ShortForm_readAddition_2  (q_20 : Int32 × Int32 × Int32 × Int32 × Int32) : Int32 × Int32 × Int32 × Int32 × Int32 := (q_20.1, q_20.2.1, q_20.2.2.1, q_20.2.2.2.1, q_20.2.2.2.2)
def cF_ShortForm_readAddition (w_k : Int32) (w_d : Int32) (w_a : Int32) (w_b : Int32) (w_i : Int32) (x0 : Int32) (x1 : Int32) (x2 : Int32) : Int32 × Int32 × Int32 × Int32 × Int32 := (if x0 = 1 then (cF_ShortForm_readAddition_1 (cF_Word_is 18 x1 x1 0 x2)) else (if x1 = 0 then (w_k, w_d, w_a, w_b, w_i) else (if x2 = 0 then (w_k, w_d, w_a, w_b, w_i) else (cF_ShortForm_readAddition_2 (cF_Word_is 18 x1 x1 0 x2)))))
set_option maxHeartbeats 4000000 in
set_option maxRecDepth 100000 in
theorem cc_ShortForm_readAddition (l : Launch) (D : va_G) (tc : Nat → ClassId) (tb : Nat → Nat) (z0 : Nat) (sz : Nat) (a_w : Nat) (w_n : Int32) (w_k : Int32) (w_d : Int32) (w_a : Int32) (w_b : Int32) (w_i : Int32) (x0 : Int32) (x1 : Int32) (x2 : Int32) : Met l y_Shor_readAddition (wM y_Shor_readAddition b_Shor_readAddition 4 none) ({ frames := 1, cells := 0, slots := 0, locals := 25 }) (va_Pc [.int x0, .int x1, .int x2, .ref a_w] (Pw D tc tb z0 [(a_w, .inr (4, [.int w_n, .int w_k, .int w_d, .int w_a, .int w_b, .int w_i]))] sz)) (va_Qv (fun u : Int32 × Int32 × Int32 × Int32 × Int32 => u = (cF_ShortForm_readAddition w_k w_d w_a w_b w_i x0 x1 x2)) (Bw D tc (va_A [(a_w, .inr (4, [.int w_n, .int w_k, .int w_d, .int w_a, .int w_b, .int w_i]))] sz) (fun u => [(a_w, .inr (4, [.int w_n, .int u.1, .int u.2.1, .int u.2.2.1, .int u.2.2.2.1, .int u.2.2.2.2]))])) (va_A [(a_w, .inr (4, [.int w_n, .int w_k, .int w_d, .int w_a, .int w_b, .int w_i]))] sz)) 0 0 (va_A [(a_w, .inr (4, [.int w_n, .int w_k, .int w_d, .int w_a, .int w_b, .int w_i]))] sz) := by
  refine Met.ofW (cc := b_Shor_readAddition) (maxL := 4) (ret := none) (by decide) rfl ?_
  intro p e s m args below meth c s₁ B hml hv
  obtain ⟨rfl, hsz, hP, hK, hB, hD0, hZ0⟩ := hv
  have hx := B.exec
  have hb := B.bytes
  have hr := B.returns
  have hts : ∀ w ∈ wALL, w.before _ s = true := fun w h => atoms_spec (ws := (wM y_Shor_readAddition b_Shor_readAddition 4 none)) B.pre w (List.mem_cons_of_mem _ h)
  have hown : s.vm.findClass "StepMachine$ShortForm" = some m.cls := findClass_of_methodNamed B.named
  have hlocks := B.notSynchronized
  subst hsz
  have hD := hD0.self (sz := s.heap.size)
  generalize hAe : va_A [(a_w, .inr (4, [.int w_n, .int w_k, .int w_d, .int w_a, .int w_b, .int w_i]))] s.heap.size = A at hD ⊢
  have hZ : ∀ q : Nat, A q → z0 ≤ q := by rw [← hAe]; exact hZ0
  have hA : ∀ q : Nat, s.heap.size ≤ q → A q := fun q h => by rw [← hAe]; exact Or.inr h
  have hS : va_S A s.heap s.heap [] := va_S.rf
  have hl := lv_entry ([.int x0, .int x1, .int x2, .ref a_w]) (n := 4) (Nat.le_of_ble_eq_true rfl)
  rw [lg_entry_eq]
  generalize (lg_sl ([.int x0, .int x1, .int x2, .ref a_w]) ++ List.replicate (4 - (lg_sl ([.int x0, .int x1, .int x2, .ref a_w])).length) Slot.unset).toArray = ls at hl ⊢
  have hl : lv_has ls 4 [(0, .int x0), (1, .int x1), (2, .int x2), (3, .ref a_w)] := hl
  refine lv_iload_n hx hb d_Shor_readAddition_0 rfl (lv_at hl 0 rfl) ?_
  refine lv_iconst (v := 1) hx hb d_Shor_readAddition_1 (by decide) ?_
  refine lv_icmp_eq (tgt := 13) hx hb d_Shor_readAddition_2 (by decide) (fun c_2 => ?_) (fun c_2 => ?_)
  · skip
    refine lv_aload_n hx hb d_Shor_readAddition_13 rfl (lv_at hl 3 rfl) ?_
    refine lv_bipush (v := 18) hx hb d_Shor_readAddition_14 (by decide) ?_
    refine lv_iload_n hx hb d_Shor_readAddition_16 rfl (lv_at hl 1 rfl) ?_
    refine lv_iload_n hx hb d_Shor_readAddition_17 rfl (lv_at hl 1 rfl) ?_
    refine lv_iconst (v := 0) hx hb d_Shor_readAddition_18 (by decide) ?_
    refine lv_iload_n hx hb d_Shor_readAddition_19 rfl (lv_at hl 2 rfl) ?_
    obtain ⟨q_20, e_20⟩ : ∃ z, z = (cF_Word_is 18 x1 x1 0 x2) := ⟨_, rfl⟩
    refine wVv (As := [.int 18, .int x1, .int x1, .int 0, .int x2]) (rest := []) e_20 ⟨hx, hb, hml, hown, hts⟩ (cc_Word_is l D tc tb z0 _ a_w w_n w_k w_d w_a w_b w_i 18 x1 x1 0 x2) (cwV 5 hts (goodV a_369 a_357 a_358 a_9 a_359) rfl rfl rfl hv_Word_is ⟨Nat.le_of_ble_eq_true rfl, Nat.le_of_ble_eq_true rfl⟩) hP hD hS hA hZ hK hB [0] rfl (by decide) (fun _ => rfl) rfl rfl rfl hl.1 rfl (Nat.le_of_ble_eq_true rfl) d_Shor_readAddition_20 ⟨Nat.zero_le _, Nat.zero_le _⟩ (fun H locs hP hD hS => ?_)
    have hP : va_P D vwCl [(a_w, .inr (4, [.int w_n, .int q_20.1, .int q_20.2.1, .int q_20.2.2.1, .int q_20.2.2.2.1, .int q_20.2.2.2.2]))] H := hP
    have hD : va_D A [(a_w, .inr (4, [.int w_n, .int q_20.1, .int q_20.2.1, .int q_20.2.2.1, .int q_20.2.2.2.1, .int q_20.2.2.2.2]))] := hD
    exact W.vret hx hb hr (fun t ht hW => ⟨⟨(q_20.1, q_20.2.1, q_20.2.2.1, q_20.2.2.2.1, q_20.2.2.2.2), rfl, by rw [cF_ShortForm_readAddition, if_pos c_2, ← e_20, cF_ShortForm_readAddition_1], by rw [ht]; exact hP, va_K.moved hW.alike hK, hD⟩, hS.F ht⟩) hS.2.2 d_Shor_readAddition_23
  · skip
    refine lv_iload_n hx hb d_Shor_readAddition_5 rfl (lv_at hl 1 rfl) ?_
    refine lv_if_eq (tgt := 23) hx hb d_Shor_readAddition_6 (by decide) (fun c_6 => ?_) (fun c_6 => ?_)
    · skip
      exact W.vret hx hb hr (fun t ht hW => ⟨⟨(w_k, w_d, w_a, w_b, w_i), rfl, by rw [cF_ShortForm_readAddition, if_neg c_2, if_pos c_6], by rw [ht]; exact hP, va_K.moved hW.alike hK, hD⟩, hS.F ht⟩) hS.2.2 d_Shor_readAddition_23
    · skip
      refine lv_iload_n hx hb d_Shor_readAddition_9 rfl (lv_at hl 2 rfl) ?_
      refine lv_if_eq (tgt := 23) hx hb d_Shor_readAddition_10 (by decide) (fun c_10 => ?_) (fun c_10 => ?_)
      · skip
        exact W.vret hx hb hr (fun t ht hW => ⟨⟨(w_k, w_d, w_a, w_b, w_i), rfl, by rw [cF_ShortForm_readAddition, if_neg c_2, if_neg c_6, if_pos c_10], by rw [ht]; exact hP, va_K.moved hW.alike hK, hD⟩, hS.F ht⟩) hS.2.2 d_Shor_readAddition_23
      · skip
        refine lv_aload_n hx hb d_Shor_readAddition_13 rfl (lv_at hl 3 rfl) ?_
        refine lv_bipush (v := 18) hx hb d_Shor_readAddition_14 (by decide) ?_
        refine lv_iload_n hx hb d_Shor_readAddition_16 rfl (lv_at hl 1 rfl) ?_
        refine lv_iload_n hx hb d_Shor_readAddition_17 rfl (lv_at hl 1 rfl) ?_
        refine lv_iconst (v := 0) hx hb d_Shor_readAddition_18 (by decide) ?_
        refine lv_iload_n hx hb d_Shor_readAddition_19 rfl (lv_at hl 2 rfl) ?_
        obtain ⟨q_20, e_20⟩ : ∃ z, z = (cF_Word_is 18 x1 x1 0 x2) := ⟨_, rfl⟩
        refine wVv (As := [.int 18, .int x1, .int x1, .int 0, .int x2]) (rest := []) e_20 ⟨hx, hb, hml, hown, hts⟩ (cc_Word_is l D tc tb z0 _ a_w w_n w_k w_d w_a w_b w_i 18 x1 x1 0 x2) (cwV 5 hts (goodV a_369 a_357 a_358 a_9 a_359) rfl rfl rfl hv_Word_is ⟨Nat.le_of_ble_eq_true rfl, Nat.le_of_ble_eq_true rfl⟩) hP hD hS hA hZ hK hB [0] rfl (by decide) (fun _ => rfl) rfl rfl rfl hl.1 rfl (Nat.le_of_ble_eq_true rfl) d_Shor_readAddition_20 ⟨Nat.zero_le _, Nat.zero_le _⟩ (fun H locs hP hD hS => ?_)
        have hP : va_P D vwCl [(a_w, .inr (4, [.int w_n, .int q_20.1, .int q_20.2.1, .int q_20.2.2.1, .int q_20.2.2.2.1, .int q_20.2.2.2.2]))] H := hP
        have hD : va_D A [(a_w, .inr (4, [.int w_n, .int q_20.1, .int q_20.2.1, .int q_20.2.2.1, .int q_20.2.2.2.1, .int q_20.2.2.2.2]))] := hD
        exact W.vret hx hb hr (fun t ht hW => ⟨⟨(q_20.1, q_20.2.1, q_20.2.2.1, q_20.2.2.2.1, q_20.2.2.2.2), rfl, by rw [cF_ShortForm_readAddition, if_neg c_2, if_neg c_6, if_neg c_10, ← e_20, cF_ShortForm_readAddition_2], by rw [ht]; exact hP, va_K.moved hW.alike hK, hD⟩, hS.F ht⟩) hS.2.2 d_Shor_readAddition_23
def cF_ShortForm_readUpper_2  (q_73 : Int32 × Int32 × Int32 × Int32 × Int32) : Int32 × Int32 × Int32 × Int32 × Int32 := (q_73.1, q_73.2.1, q_73.2.2.1, q_73.2.2.2.1, q_73.2.2.2.2)
def cF_ShortForm_readUpper_1  (q_88 : Int32 × Int32 × Int32 × Int32 × Int32) : Int32 × Int32 × Int32 × Int32 × Int32 := (q_88.1, q_88.2.1, q_88.2.2.1, q_88.2.2.2.1, q_88.2.2.2.2)
def cF_ShortForm_readUpper (w_k : Int32) (w_d : Int32) (w_a : Int32) (w_b : Int32) (w_i : Int32) (x0 : Int32) (x1 : Int32) (x2 : Int32) : Int32 × Int32 × Int32 × Int32 × Int32 := (if x1 = 0 then (w_k, w_d, w_a, w_b, w_i) else (if x2 = 0 then (w_k, w_d, w_a, w_b, w_i) else (if x1 = 2 then (cF_ShortForm_readUpper_2 (cF_Word_is 18 2 2 0 (cF_Word_signed (((((cF_Word_part x0 12 1 9) ||| (cF_Word_part x0 6 1 4)) ||| (cF_Word_part x0 5 1 6)) ||| (cF_Word_part x0 3 2 7)) ||| (cF_Word_part x0 2 1 5)) 10))) else (cF_ShortForm_readUpper_1 (cF_Word_is 0 x1 0 0 (x2 &&& 1048575))))))
set_option maxHeartbeats 4000000 in
set_option maxRecDepth 100000 in
theorem cc_ShortForm_readUpper (l : Launch) (D : va_G) (tc : Nat → ClassId) (tb : Nat → Nat) (z0 : Nat) (sz : Nat) (a_w : Nat) (w_n : Int32) (w_k : Int32) (w_d : Int32) (w_a : Int32) (w_b : Int32) (w_i : Int32) (x0 : Int32) (x1 : Int32) (x2 : Int32) : Met l y_Shor_readUpper (wM y_Shor_readUpper b_Shor_readUpper 5 none) ({ frames := 1, cells := 0, slots := 0, locals := 25 }) (va_Pc [.int x0, .int x1, .int x2, .ref a_w] (Pw D tc tb z0 [(a_w, .inr (4, [.int w_n, .int w_k, .int w_d, .int w_a, .int w_b, .int w_i]))] sz)) (va_Qv (fun u : Int32 × Int32 × Int32 × Int32 × Int32 => u = (cF_ShortForm_readUpper w_k w_d w_a w_b w_i x0 x1 x2)) (Bw D tc (va_A [(a_w, .inr (4, [.int w_n, .int w_k, .int w_d, .int w_a, .int w_b, .int w_i]))] sz) (fun u => [(a_w, .inr (4, [.int w_n, .int u.1, .int u.2.1, .int u.2.2.1, .int u.2.2.2.1, .int u.2.2.2.2]))])) (va_A [(a_w, .inr (4, [.int w_n, .int w_k, .int w_d, .int w_a, .int w_b, .int w_i]))] sz)) 0 0 (va_A [(a_w, .inr (4, [.int w_n, .int w_k, .int w_d, .int w_a, .int w_b, .int w_i]))] sz) := by
  refine Met.ofW (cc := b_Shor_readUpper) (maxL := 5) (ret := none) (by decide) rfl ?_
  intro p e s m args below meth c s₁ B hml hv
  obtain ⟨rfl, hsz, hP, hK, hB, hD0, hZ0⟩ := hv
  have hx := B.exec
  have hb := B.bytes
  have hr := B.returns
  have hts : ∀ w ∈ wALL, w.before _ s = true := fun w h => atoms_spec (ws := (wM y_Shor_readUpper b_Shor_readUpper 5 none)) B.pre w (List.mem_cons_of_mem _ h)
  have hown : s.vm.findClass "StepMachine$ShortForm" = some m.cls := findClass_of_methodNamed B.named
  have hlocks := B.notSynchronized
  subst hsz
  have hD := hD0.self (sz := s.heap.size)
  generalize hAe : va_A [(a_w, .inr (4, [.int w_n, .int w_k, .int w_d, .int w_a, .int w_b, .int w_i]))] s.heap.size = A at hD ⊢
  have hZ : ∀ q : Nat, A q → z0 ≤ q := by rw [← hAe]; exact hZ0
  have hA : ∀ q : Nat, s.heap.size ≤ q → A q := fun q h => by rw [← hAe]; exact Or.inr h
  have hS : va_S A s.heap s.heap [] := va_S.rf
  have hl := lv_entry ([.int x0, .int x1, .int x2, .ref a_w]) (n := 5) (Nat.le_of_ble_eq_true rfl)
  rw [lg_entry_eq]
  generalize (lg_sl ([.int x0, .int x1, .int x2, .ref a_w]) ++ List.replicate (5 - (lg_sl ([.int x0, .int x1, .int x2, .ref a_w])).length) Slot.unset).toArray = ls at hl ⊢
  have hl : lv_has ls 5 [(0, .int x0), (1, .int x1), (2, .int x2), (3, .ref a_w)] := hl
  refine lv_iload_n hx hb d_Shor_readUpper_0 rfl (lv_at hl 1 rfl) ?_
  refine lv_if_eq (tgt := 8) hx hb d_Shor_readUpper_1 (by decide) (fun c_1 => ?_) (fun c_1 => ?_)
  · skip
    exact W.vret hx hb hr (fun t ht hW => ⟨⟨(w_k, w_d, w_a, w_b, w_i), rfl, by rw [cF_ShortForm_readUpper, if_pos c_1], by rw [ht]; exact hP, va_K.moved hW.alike hK, hD⟩, hS.F ht⟩) hS.2.2 d_Shor_readUpper_8
  · skip
    refine lv_iload_n hx hb d_Shor_readUpper_4 rfl (lv_at hl 2 rfl) ?_
    refine lv_if_ne (tgt := 9) hx hb d_Shor_readUpper_5 (by decide) (fun c_5 => ?_) (fun c_5 => ?_)
    · skip
      refine lv_iload_n hx hb d_Shor_readUpper_9 rfl (lv_at hl 1 rfl) ?_
      refine lv_iconst (v := 2) hx hb d_Shor_readUpper_10 (by decide) ?_
      refine lv_icmp_ne (tgt := 79) hx hb d_Shor_readUpper_11 (by decide) (fun c_11 => ?_) (fun c_11 => ?_)
      · skip
        refine lv_aload_n hx hb d_Shor_readUpper_79 rfl (lv_at hl 3 rfl) ?_
        refine lv_iconst (v := 0) hx hb d_Shor_readUpper_80 (by decide) ?_
        refine lv_iload_n hx hb d_Shor_readUpper_81 rfl (lv_at hl 1 rfl) ?_
        refine lv_iconst (v := 0) hx hb d_Shor_readUpper_82 (by decide) ?_
        refine lv_iconst (v := 0) hx hb d_Shor_readUpper_83 (by decide) ?_
        refine lv_iload_n hx hb d_Shor_readUpper_84 rfl (lv_at hl 2 rfl) ?_
        refine lv_ldc (v := 1048575) hx hb hown (hts _ a_388) d_Shor_readUpper_85 ?_
        refine lv_iand hx hb d_Shor_readUpper_87 ?_
        obtain ⟨q_88, e_88⟩ : ∃ z, z = (cF_Word_is 0 x1 0 0 (x2 &&& 1048575)) := ⟨_, rfl⟩
        refine wVv (As := [.int 0, .int x1, .int 0, .int 0, .int (x2 &&& 1048575)]) (rest := []) e_88 ⟨hx, hb, hml, hown, hts⟩ (cc_Word_is l D tc tb z0 _ a_w w_n w_k w_d w_a w_b w_i 0 x1 0 0 (x2 &&& 1048575)) (cwV 5 hts (goodV a_369 a_357 a_358 a_9 a_359) rfl rfl rfl hv_Word_is ⟨Nat.le_of_ble_eq_true rfl, Nat.le_of_ble_eq_true rfl⟩) hP hD hS hA hZ hK hB [0] rfl (by decide) (fun _ => rfl) rfl rfl rfl hl.1 rfl (Nat.le_of_ble_eq_true rfl) d_Shor_readUpper_88 ⟨Nat.zero_le _, Nat.zero_le _⟩ (fun H locs hP hD hS => ?_)
        have hP : va_P D vwCl [(a_w, .inr (4, [.int w_n, .int q_88.1, .int q_88.2.1, .int q_88.2.2.1, .int q_88.2.2.2.1, .int q_88.2.2.2.2]))] H := hP
        have hD : va_D A [(a_w, .inr (4, [.int w_n, .int q_88.1, .int q_88.2.1, .int q_88.2.2.1, .int q_88.2.2.2.1, .int q_88.2.2.2.2]))] := hD
        exact W.vret hx hb hr (fun t ht hW => ⟨⟨(q_88.1, q_88.2.1, q_88.2.2.1, q_88.2.2.2.1, q_88.2.2.2.2), rfl, by rw [cF_ShortForm_readUpper, if_neg c_1, if_neg c_5, if_neg c_11, ← e_88, cF_ShortForm_readUpper_1], by rw [ht]; exact hP, va_K.moved hW.alike hK, hD⟩, hS.F ht⟩) hS.2.2 d_Shor_readUpper_91
      · skip
        refine lv_iload_n hx hb d_Shor_readUpper_14 rfl (lv_at hl 0 rfl) ?_
        refine lv_bipush (v := 12) hx hb d_Shor_readUpper_15 (by decide) ?_
        refine lv_iconst (v := 1) hx hb d_Shor_readUpper_17 (by decide) ?_
        refine lv_bipush (v := 9) hx hb d_Shor_readUpper_18 (by decide) ?_
        refine roSi (As := [.int x0, .int 12, .int 1, .int 9]) (rest := []) ⟨hx, hb, hml, hown, hts⟩ (cc_Word_part l D tc tb z0 x0 12 1 9) (va_cwS 4 hts (goodS a_363 a_364 a_9 a_365) rfl rfl rfl hs_Word_part ⟨Nat.le_of_ble_eq_true rfl, Nat.le_of_ble_eq_true rfl⟩) (hP.sub [] rfl) hK (hB.kept hS hZ) rfl hl.1 rfl (Nat.le_of_ble_eq_true rfl) d_Shor_readUpper_20 ⟨Nat.zero_le _, Nat.zero_le _⟩ ?_
        refine lv_iload_n hx hb d_Shor_readUpper_23 rfl (lv_at hl 0 rfl) ?_
        refine lv_bipush (v := 6) hx hb d_Shor_readUpper_24 (by decide) ?_
        refine lv_iconst (v := 1) hx hb d_Shor_readUpper_26 (by decide) ?_
        refine lv_iconst (v := 4) hx hb d_Shor_readUpper_27 (by decide) ?_
        refine roSi (As := [.int x0, .int 6, .int 1, .int 4]) (rest := [.int (cF_Word_part x0 12 1 9)]) ⟨hx, hb, hml, hown, hts⟩ (cc_Word_part l D tc tb z0 x0 6 1 4) (va_cwS 4 hts (goodS a_363 a_364 a_9 a_365) rfl rfl rfl hs_Word_part ⟨Nat.le_of_ble_eq_true rfl, Nat.le_of_ble_eq_true rfl⟩) (hP.sub [] rfl) hK (hB.kept hS hZ) rfl hl.1 rfl (Nat.le_of_ble_eq_true rfl) d_Shor_readUpper_28 ⟨Nat.zero_le _, Nat.zero_le _⟩ ?_
        refine lv_ior hx hb d_Shor_readUpper_31 ?_
        refine lv_iload_n hx hb d_Shor_readUpper_32 rfl (lv_at hl 0 rfl) ?_
        refine lv_iconst (v := 5) hx hb d_Shor_readUpper_33 (by decide) ?_
        refine lv_iconst (v := 1) hx hb d_Shor_readUpper_34 (by decide) ?_
        refine lv_bipush (v := 6) hx hb d_Shor_readUpper_35 (by decide) ?_
        refine roSi (As := [.int x0, .int 5, .int 1, .int 6]) (rest := [.int ((cF_Word_part x0 12 1 9) ||| (cF_Word_part x0 6 1 4))]) ⟨hx, hb, hml, hown, hts⟩ (cc_Word_part l D tc tb z0 x0 5 1 6) (va_cwS 4 hts (goodS a_363 a_364 a_9 a_365) rfl rfl rfl hs_Word_part ⟨Nat.le_of_ble_eq_true rfl, Nat.le_of_ble_eq_true rfl⟩) (hP.sub [] rfl) hK (hB.kept hS hZ) rfl hl.1 rfl (Nat.le_of_ble_eq_true rfl) d_Shor_readUpper_37 ⟨Nat.zero_le _, Nat.zero_le _⟩ ?_
        refine lv_ior hx hb d_Shor_readUpper_40 ?_
        refine lv_iload_n hx hb d_Shor_readUpper_41 rfl (lv_at hl 0 rfl) ?_
        refine lv_iconst (v := 3) hx hb d_Shor_readUpper_42 (by decide) ?_
        refine lv_iconst (v := 2) hx hb d_Shor_readUpper_43 (by decide) ?_
        refine lv_bipush (v := 7) hx hb d_Shor_readUpper_44 (by decide) ?_
        refine roSi (As := [.int x0, .int 3, .int 2, .int 7]) (rest := [.int (((cF_Word_part x0 12 1 9) ||| (cF_Word_part x0 6 1 4)) ||| (cF_Word_part x0 5 1 6))]) ⟨hx, hb, hml, hown, hts⟩ (cc_Word_part l D tc tb z0 x0 3 2 7) (va_cwS 4 hts (goodS a_363 a_364 a_9 a_365) rfl rfl rfl hs_Word_part ⟨Nat.le_of_ble_eq_true rfl, Nat.le_of_ble_eq_true rfl⟩) (hP.sub [] rfl) hK (hB.kept hS hZ) rfl hl.1 rfl (Nat.le_of_ble_eq_true rfl) d_Shor_readUpper_46 ⟨Nat.zero_le _, Nat.zero_le _⟩ ?_
        refine lv_ior hx hb d_Shor_readUpper_49 ?_
        refine lv_iload_n hx hb d_Shor_readUpper_50 rfl (lv_at hl 0 rfl) ?_
        refine lv_iconst (v := 2) hx hb d_Shor_readUpper_51 (by decide) ?_
        refine lv_iconst (v := 1) hx hb d_Shor_readUpper_52 (by decide) ?_
        refine lv_iconst (v := 5) hx hb d_Shor_readUpper_53 (by decide) ?_
        refine roSi (As := [.int x0, .int 2, .int 1, .int 5]) (rest := [.int ((((cF_Word_part x0 12 1 9) ||| (cF_Word_part x0 6 1 4)) ||| (cF_Word_part x0 5 1 6)) ||| (cF_Word_part x0 3 2 7))]) ⟨hx, hb, hml, hown, hts⟩ (cc_Word_part l D tc tb z0 x0 2 1 5) (va_cwS 4 hts (goodS a_363 a_364 a_9 a_365) rfl rfl rfl hs_Word_part ⟨Nat.le_of_ble_eq_true rfl, Nat.le_of_ble_eq_true rfl⟩) (hP.sub [] rfl) hK (hB.kept hS hZ) rfl hl.1 rfl (Nat.le_of_ble_eq_true rfl) d_Shor_readUpper_54 ⟨Nat.zero_le _, Nat.zero_le _⟩ ?_
        refine lv_ior hx hb d_Shor_readUpper_57 ?_
        refine lv_istore (lv' := [(4, .int (((((cF_Word_part x0 12 1 9) ||| (cF_Word_part x0 6 1 4)) ||| (cF_Word_part x0 5 1 6)) ||| (cF_Word_part x0 3 2 7)) ||| (cF_Word_part x0 2 1 5))), (0, .int x0), (1, .int x1), (2, .int x2), (3, .ref a_w)]) hx hb d_Shor_readUpper_58 hl (by decide) rfl (fun ls hl => ?_)
        refine lv_aload_n hx hb d_Shor_readUpper_60 rfl (lv_at hl 4 rfl) ?_
        refine lv_bipush (v := 18) hx hb d_Shor_readUpper_61 (by decide) ?_
        refine lv_iconst (v := 2) hx hb d_Shor_readUpper_63 (by decide) ?_
        refine lv_iconst (v := 2) hx hb d_Shor_readUpper_64 (by decide) ?_
        refine lv_iconst (v := 0) hx hb d_Shor_readUpper_65 (by decide) ?_
        refine lv_iload hx hb d_Shor_readUpper_66 (lv_at hl 0 rfl) ?_
        refine lv_bipush (v := 10) hx hb d_Shor_readUpper_68 (by decide) ?_
        refine roSi (As := [.int (((((cF_Word_part x0 12 1 9) ||| (cF_Word_part x0 6 1 4)) ||| (cF_Word_part x0 5 1 6)) ||| (cF_Word_part x0 3 2 7)) ||| (cF_Word_part x0 2 1 5)), .int 10]) (rest := [.int 0, .int 2, .int 2, .int 18, .ref a_w]) ⟨hx, hb, hml, hown, hts⟩ (cc_Word_signed l D tc tb z0 (((((cF_Word_part x0 12 1 9) ||| (cF_Word_part x0 6 1 4)) ||| (cF_Word_part x0 5 1 6)) ||| (cF_Word_part x0 3 2 7)) ||| (cF_Word_part x0 2 1 5)) 10) (va_cwS 2 hts (goodS a_376 a_377 a_9 a_378) rfl rfl rfl hs_Word_signed ⟨Nat.le_of_ble_eq_true rfl, Nat.le_of_ble_eq_true rfl⟩) (hP.sub [] rfl) hK (hB.kept hS hZ) rfl hl.1 rfl (Nat.le_of_ble_eq_true rfl) d_Shor_readUpper_70 ⟨Nat.zero_le _, Nat.zero_le _⟩ ?_
        obtain ⟨q_73, e_73⟩ : ∃ z, z = (cF_Word_is 18 2 2 0 (cF_Word_signed (((((cF_Word_part x0 12 1 9) ||| (cF_Word_part x0 6 1 4)) ||| (cF_Word_part x0 5 1 6)) ||| (cF_Word_part x0 3 2 7)) ||| (cF_Word_part x0 2 1 5)) 10)) := ⟨_, rfl⟩
        refine wVv (As := [.int 18, .int 2, .int 2, .int 0, .int (cF_Word_signed (((((cF_Word_part x0 12 1 9) ||| (cF_Word_part x0 6 1 4)) ||| (cF_Word_part x0 5 1 6)) ||| (cF_Word_part x0 3 2 7)) ||| (cF_Word_part x0 2 1 5)) 10)]) (rest := []) e_73 ⟨hx, hb, hml, hown, hts⟩ (cc_Word_is l D tc tb z0 _ a_w w_n w_k w_d w_a w_b w_i 18 2 2 0 (cF_Word_signed (((((cF_Word_part x0 12 1 9) ||| (cF_Word_part x0 6 1 4)) ||| (cF_Word_part x0 5 1 6)) ||| (cF_Word_part x0 3 2 7)) ||| (cF_Word_part x0 2 1 5)) 10)) (cwV 5 hts (goodV a_369 a_357 a_358 a_9 a_359) rfl rfl rfl hv_Word_is ⟨Nat.le_of_ble_eq_true rfl, Nat.le_of_ble_eq_true rfl⟩) hP hD hS hA hZ hK hB [0] rfl (by decide) (fun _ => rfl) rfl rfl rfl hl.1 rfl (Nat.le_of_ble_eq_true rfl) d_Shor_readUpper_73 ⟨Nat.zero_le _, Nat.zero_le _⟩ (fun H locs hP hD hS => ?_)
        have hP : va_P D vwCl [(a_w, .inr (4, [.int w_n, .int q_73.1, .int q_73.2.1, .int q_73.2.2.1, .int q_73.2.2.2.1, .int q_73.2.2.2.2]))] H := hP
        have hD : va_D A [(a_w, .inr (4, [.int w_n, .int q_73.1, .int q_73.2.1, .int q_73.2.2.1, .int q_73.2.2.2.1, .int q_73.2.2.2.2]))] := hD
        refine lv_goto (tgt := 91) hx hb d_Shor_readUpper_76 (by decide) ?_
        exact W.vret hx hb hr (fun t ht hW => ⟨⟨(q_73.1, q_73.2.1, q_73.2.2.1, q_73.2.2.2.1, q_73.2.2.2.2), rfl, by rw [cF_ShortForm_readUpper, if_neg c_1, if_neg c_5, if_pos c_11, ← e_73, cF_ShortForm_readUpper_2], by rw [ht]; exact hP, va_K.moved hW.alike hK, hD⟩, hS.F ht⟩) hS.2.2 d_Shor_readUpper_91
    · skip
      exact W.vret hx hb hr (fun t ht hW => ⟨⟨(w_k, w_d, w_a, w_b, w_i), rfl, by rw [cF_ShortForm_readUpper, if_neg c_1, if_pos c_5], by rw [ht]; exact hP, va_K.moved hW.alike hK, hD⟩, hS.F ht⟩) hS.2.2 d_Shor_readUpper_8
def cF_ShortForm_readNearPair_1  (q_73 : Int32 × Int32 × Int32 × Int32 × Int32) : Int32 × Int32 × Int32 × Int32 × Int32 := (q_73.1, q_73.2.1, q_73.2.2.1, q_73.2.2.2.1, q_73.2.2.2.2)
def cF_ShortForm_readNearPair_2  (q_92 : Int32 × Int32 × Int32 × Int32 × Int32) : Int32 × Int32 × Int32 × Int32 × Int32 := (q_92.1, q_92.2.1, q_92.2.2.1, q_92.2.2.2.1, q_92.2.2.2.2)
def cF_ShortForm_readNearPair_3  (q_105 : Int32 × Int32 × Int32 × Int32 × Int32) : Int32 × Int32 × Int32 × Int32 × Int32 := (q_105.1, q_105.2.1, q_105.2.2.1, q_105.2.2.2.1, q_105.2.2.2.2)
def cF_ShortForm_readNearPair_4  (q_134 : Int32 × Int32 × Int32 × Int32 × Int32) : Int32 × Int32 × Int32 × Int32 × Int32 := (q_134.1, q_134.2.1, q_134.2.2.1, q_134.2.2.2.1, q_134.2.2.2.2)
def cF_ShortForm_readNearPair_5  (q_73 : Int32 × Int32 × Int32 × Int32 × Int32) : Int32 × Int32 × Int32 × Int32 × Int32 := (q_73.1, q_73.2.1, q_73.2.2.1, q_73.2.2.2.1, q_73.2.2.2.2)
def cF_ShortForm_readNearPair_6  (q_92 : Int32 × Int32 × Int32 × Int32 × Int32) : Int32 × Int32 × Int32 × Int32 × Int32 := (q_92.1, q_92.2.1, q_92.2.2.1, q_92.2.2.2.1, q_92.2.2.2.2)
def cF_ShortForm_readNearPair_7  (q_105 : Int32 × Int32 × Int32 × Int32 × Int32) : Int32 × Int32 × Int32 × Int32 × Int32 := (q_105.1, q_105.2.1, q_105.2.2.1, q_105.2.2.2.1, q_105.2.2.2.2)
def cF_ShortForm_readNearPair_8  (q_134 : Int32 × Int32 × Int32 × Int32 × Int32) : Int32 × Int32 × Int32 × Int32 × Int32 := (q_134.1, q_134.2.1, q_134.2.2.1, q_134.2.2.2.1, q_134.2.2.2.2)
def cF_ShortForm_readNearPair (x0 : Int32) (x1 : Int32) : Int32 × Int32 × Int32 × Int32 × Int32 := (if ((j_ushr x0 12) &&& 1) = 0 then (if ((j_ushr x0 10) &&& 3) = 0 then (cF_ShortForm_readNearPair_1 (cF_Word_is (cF_ShortForm_kindOfShift 25 0 x1) (8 + ((j_ushr x0 7) &&& 7)) (8 + ((j_ushr x0 7) &&& 7)) 0 x1)) else (if ((j_ushr x0 10) &&& 3) = 1 then (cF_ShortForm_readNearPair_2 (cF_Word_is (cF_ShortForm_kindOfShift 26 0 x1) (8 + ((j_ushr x0 7) &&& 7)) (8 + ((j_ushr x0 7) &&& 7)) 0 x1)) else (if ((j_ushr x0 10) &&& 3) = 2 then (cF_ShortForm_readNearPair_3 (cF_Word_is 23 (8 + ((j_ushr x0 7) &&& 7)) (8 + ((j_ushr x0 7) &&& 7)) 0 x1)) else (cF_ShortForm_readNearPair_4 (cF_Word_is (cF_ShortForm_kindOfPair ((j_ushr x0 5) &&& 3) 0) (8 + ((j_ushr x0 7) &&& 7)) (8 + ((j_ushr x0 7) &&& 7)) (8 + ((j_ushr x0 2) &&& 7)) 0))))) else (if ((j_ushr x0 10) &&& 3) = 0 then (cF_ShortForm_readNearPair_5 (cF_Word_is (cF_ShortForm_kindOfShift 25 1 x1) (8 + ((j_ushr x0 7) &&& 7)) (8 + ((j_ushr x0 7) &&& 7)) 0 x1)) else (if ((j_ushr x0 10) &&& 3) = 1 then (cF_ShortForm_readNearPair_6 (cF_Word_is (cF_ShortForm_kindOfShift 26 1 x1) (8 + ((j_ushr x0 7) &&& 7)) (8 + ((j_ushr x0 7) &&& 7)) 0 x1)) else (if ((j_ushr x0 10) &&& 3) = 2 then (cF_ShortForm_readNearPair_7 (cF_Word_is 23 (8 + ((j_ushr x0 7) &&& 7)) (8 + ((j_ushr x0 7) &&& 7)) 0 x1)) else (cF_ShortForm_readNearPair_8 (cF_Word_is (cF_ShortForm_kindOfPair ((j_ushr x0 5) &&& 3) 1) (8 + ((j_ushr x0 7) &&& 7)) (8 + ((j_ushr x0 7) &&& 7)) (8 + ((j_ushr x0 2) &&& 7)) 0))))))
set_option maxHeartbeats 4000000 in
set_option maxRecDepth 100000 in
theorem cc_ShortForm_readNearPair (l : Launch) (D : va_G) (tc : Nat → ClassId) (tb : Nat → Nat) (z0 : Nat) (sz : Nat) (a_w : Nat) (w_n : Int32) (w_k : Int32) (w_d : Int32) (w_a : Int32) (w_b : Int32) (w_i : Int32) (x0 : Int32) (x1 : Int32) : Met l y_Shor_readNearPair (wM y_Shor_readNearPair b_Shor_readNearPair 5 none) ({ frames := 1, cells := 0, slots := 0, locals := 25 }) (va_Pc [.int x0, .int x1, .ref a_w] (Pw D tc tb z0 [(a_w, .inr (4, [.int w_n, .int w_k, .int w_d, .int w_a, .int w_b, .int w_i]))] sz)) (va_Qv (fun u : Int32 × Int32 × Int32 × Int32 × Int32 => u = (cF_ShortForm_readNearPair x0 x1)) (Bw D tc (va_A [(a_w, .inr (4, [.int w_n, .int w_k, .int w_d, .int w_a, .int w_b, .int w_i]))] sz) (fun u => [(a_w, .inr (4, [.int w_n, .int u.1, .int u.2.1, .int u.2.2.1, .int u.2.2.2.1, .int u.2.2.2.2]))])) (va_A [(a_w, .inr (4, [.int w_n, .int w_k, .int w_d, .int w_a, .int w_b, .int w_i]))] sz)) 0 0 (va_A [(a_w, .inr (4, [.int w_n, .int w_k, .int w_d, .int w_a, .int w_b, .int w_i]))] sz) := by
  refine Met.ofW (cc := b_Shor_readNearPair) (maxL := 5) (ret := none) (by decide) rfl ?_
  intro p e s m args below meth c s₁ B hml hv
  obtain ⟨rfl, hsz, hP, hK, hB, hD0, hZ0⟩ := hv
  have hx := B.exec
  have hb := B.bytes
  have hr := B.returns
  have hts : ∀ w ∈ wALL, w.before _ s = true := fun w h => atoms_spec (ws := (wM y_Shor_readNearPair b_Shor_readNearPair 5 none)) B.pre w (List.mem_cons_of_mem _ h)
  have hown : s.vm.findClass "StepMachine$ShortForm" = some m.cls := findClass_of_methodNamed B.named
  have hlocks := B.notSynchronized
  subst hsz
  have hD := hD0.self (sz := s.heap.size)
  generalize hAe : va_A [(a_w, .inr (4, [.int w_n, .int w_k, .int w_d, .int w_a, .int w_b, .int w_i]))] s.heap.size = A at hD ⊢
  have hZ : ∀ q : Nat, A q → z0 ≤ q := by rw [← hAe]; exact hZ0
  have hA : ∀ q : Nat, s.heap.size ≤ q → A q := fun q h => by rw [← hAe]; exact Or.inr h
  have hS : va_S A s.heap s.heap [] := va_S.rf
  have hl := lv_entry ([.int x0, .int x1, .ref a_w]) (n := 5) (Nat.le_of_ble_eq_true rfl)
  rw [lg_entry_eq]
  generalize (lg_sl ([.int x0, .int x1, .ref a_w]) ++ List.replicate (5 - (lg_sl ([.int x0, .int x1, .ref a_w])).length) Slot.unset).toArray = ls at hl ⊢
  have hl : lv_has ls 5 [(0, .int x0), (1, .int x1), (2, .ref a_w)] := hl
  refine lv_bipush (v := 8) hx hb d_Shor_readNearPair_0 (by decide) ?_
  refine lv_iload_n hx hb d_Shor_readNearPair_2 rfl (lv_at hl 0 rfl) ?_
  refine lv_bipush (v := 7) hx hb d_Shor_readNearPair_3 (by decide) ?_
  refine lv_iushr (v := (j_ushr x0 7)) hx hb d_Shor_readNearPair_5 rfl ?_
  refine lv_bipush (v := 7) hx hb d_Shor_readNearPair_6 (by decide) ?_
  refine lv_iand hx hb d_Shor_readNearPair_8 ?_
  refine lv_iadd hx hb d_Shor_readNearPair_9 ?_
  refine lv_istore_n (lv' := [(3, .int (8 + ((j_ushr x0 7) &&& 7))), (0, .int x0), (1, .int x1), (2, .ref a_w)]) hx hb d_Shor_readNearPair_10 rfl hl (by decide) rfl (fun ls hl => ?_)
  refine lv_iload_n hx hb d_Shor_readNearPair_11 rfl (lv_at hl 1 rfl) ?_
  refine lv_bipush (v := 12) hx hb d_Shor_readNearPair_12 (by decide) ?_
  refine lv_iushr (v := (j_ushr x0 12)) hx hb d_Shor_readNearPair_14 rfl ?_
  refine lv_iconst (v := 1) hx hb d_Shor_readNearPair_15 (by decide) ?_
  refine lv_iand hx hb d_Shor_readNearPair_16 ?_
  refine lv_if_eq (tgt := 24) hx hb d_Shor_readNearPair_17 (by decide) (fun c_17 => ?_) (fun c_17 => ?_)
  · skip
    refine lv_iconst (v := 0) hx hb d_Shor_readNearPair_24 (by decide) ?_
    refine lv_istore (lv' := [(4, .int 0), (3, .int (8 + ((j_ushr x0 7) &&& 7))), (0, .int x0), (1, .int x1), (2, .ref a_w)]) hx hb d_Shor_readNearPair_25 hl (by decide) rfl (fun ls hl => ?_)
    refine lv_iload_n hx hb d_Shor_readNearPair_27 rfl (lv_at hl 2 rfl) ?_
    refine lv_bipush (v := 10) hx hb d_Shor_readNearPair_28 (by decide) ?_
    refine lv_iushr (v := (j_ushr x0 10)) hx hb d_Shor_readNearPair_30 rfl ?_
    refine lv_iconst (v := 3) hx hb d_Shor_readNearPair_31 (by decide) ?_
    refine lv_iand hx hb d_Shor_readNearPair_32 ?_
    by_cases c_33_0 : ((j_ushr x0 10) &&& 3) = 0
    · skip
      refine lv_tableIn (tgt := 60) hx hb d_Shor_readNearPair_33 (by rw [c_33_0]; decide) (by rw [c_33_0]; decide) (by rw [c_33_0] <;> rfl) (by decide) ?_
      refine lv_aload_n hx hb d_Shor_readNearPair_60 rfl (lv_at hl 4 rfl) ?_
      refine lv_bipush (v := 25) hx hb d_Shor_readNearPair_61 (by decide) ?_
      refine lv_iload hx hb d_Shor_readNearPair_63 (lv_at hl 0 rfl) ?_
      refine lv_iload_n hx hb d_Shor_readNearPair_65 rfl (lv_at hl 3 rfl) ?_
      refine roSi (As := [.int 25, .int 0, .int x1]) (rest := [.ref a_w]) ⟨hx, hb, hml, hown, hts⟩ (cc_ShortForm_kindOfShift l D tc tb z0 25 0 x1) (va_cwS 3 hts (goodS a_392 a_393 a_11 a_394) rfl rfl rfl hs_Shor_kindOfShift ⟨Nat.le_of_ble_eq_true rfl, Nat.le_of_ble_eq_true rfl⟩) (hP.sub [] rfl) hK (hB.kept hS hZ) rfl hl.1 rfl (Nat.le_of_ble_eq_true rfl) d_Shor_readNearPair_66 ⟨Nat.zero_le _, Nat.zero_le _⟩ ?_
      refine lv_iload_n hx hb d_Shor_readNearPair_69 rfl (lv_at hl 1 rfl) ?_
      refine lv_iload_n hx hb d_Shor_readNearPair_70 rfl (lv_at hl 1 rfl) ?_
      refine lv_iconst (v := 0) hx hb d_Shor_readNearPair_71 (by decide) ?_
      refine lv_iload_n hx hb d_Shor_readNearPair_72 rfl (lv_at hl 3 rfl) ?_
      obtain ⟨q_73, e_73⟩ : ∃ z, z = (cF_Word_is (cF_ShortForm_kindOfShift 25 0 x1) (8 + ((j_ushr x0 7) &&& 7)) (8 + ((j_ushr x0 7) &&& 7)) 0 x1) := ⟨_, rfl⟩
      refine wVv (As := [.int (cF_ShortForm_kindOfShift 25 0 x1), .int (8 + ((j_ushr x0 7) &&& 7)), .int (8 + ((j_ushr x0 7) &&& 7)), .int 0, .int x1]) (rest := []) e_73 ⟨hx, hb, hml, hown, hts⟩ (cc_Word_is l D tc tb z0 _ a_w w_n w_k w_d w_a w_b w_i (cF_ShortForm_kindOfShift 25 0 x1) (8 + ((j_ushr x0 7) &&& 7)) (8 + ((j_ushr x0 7) &&& 7)) 0 x1) (cwV 5 hts (goodV a_369 a_357 a_358 a_9 a_359) rfl rfl rfl hv_Word_is ⟨Nat.le_of_ble_eq_true rfl, Nat.le_of_ble_eq_true rfl⟩) hP hD hS hA hZ hK hB [0] rfl (by decide) (fun _ => rfl) rfl rfl rfl hl.1 rfl (Nat.le_of_ble_eq_true rfl) d_Shor_readNearPair_73 ⟨Nat.zero_le _, Nat.zero_le _⟩ (fun H locs hP hD hS => ?_)
      have hP : va_P D vwCl [(a_w, .inr (4, [.int w_n, .int q_73.1, .int q_73.2.1, .int q_73.2.2.1, .int q_73.2.2.2.1, .int q_73.2.2.2.2]))] H := hP
      have hD : va_D A [(a_w, .inr (4, [.int w_n, .int q_73.1, .int q_73.2.1, .int q_73.2.2.1, .int q_73.2.2.2.1, .int q_73.2.2.2.2]))] := hD
      refine lv_goto (tgt := 137) hx hb d_Shor_readNearPair_76 (by decide) ?_
      exact W.vret hx hb hr (fun t ht hW => ⟨⟨(q_73.1, q_73.2.1, q_73.2.2.1, q_73.2.2.2.1, q_73.2.2.2.2), rfl, by rw [cF_ShortForm_readNearPair, if_pos c_17, if_pos c_33_0, ← e_73, cF_ShortForm_readNearPair_1], by rw [ht]; exact hP, va_K.moved hW.alike hK, hD⟩, hS.F ht⟩) hS.2.2 d_Shor_readNearPair_137
    · skip
      by_cases c_33_1 : ((j_ushr x0 10) &&& 3) = 1
      · skip
        refine lv_tableIn (tgt := 79) hx hb d_Shor_readNearPair_33 (by rw [c_33_1]; decide) (by rw [c_33_1]; decide) (by rw [c_33_1] <;> rfl) (by decide) ?_
        refine lv_aload_n hx hb d_Shor_readNearPair_79 rfl (lv_at hl 4 rfl) ?_
        refine lv_bipush (v := 26) hx hb d_Shor_readNearPair_80 (by decide) ?_
        refine lv_iload hx hb d_Shor_readNearPair_82 (lv_at hl 0 rfl) ?_
        refine lv_iload_n hx hb d_Shor_readNearPair_84 rfl (lv_at hl 3 rfl) ?_
        refine roSi (As := [.int 26, .int 0, .int x1]) (rest := [.ref a_w]) ⟨hx, hb, hml, hown, hts⟩ (cc_ShortForm_kindOfShift l D tc tb z0 26 0 x1) (va_cwS 3 hts (goodS a_392 a_393 a_11 a_394) rfl rfl rfl hs_Shor_kindOfShift ⟨Nat.le_of_ble_eq_true rfl, Nat.le_of_ble_eq_true rfl⟩) (hP.sub [] rfl) hK (hB.kept hS hZ) rfl hl.1 rfl (Nat.le_of_ble_eq_true rfl) d_Shor_readNearPair_85 ⟨Nat.zero_le _, Nat.zero_le _⟩ ?_
        refine lv_iload_n hx hb d_Shor_readNearPair_88 rfl (lv_at hl 1 rfl) ?_
        refine lv_iload_n hx hb d_Shor_readNearPair_89 rfl (lv_at hl 1 rfl) ?_
        refine lv_iconst (v := 0) hx hb d_Shor_readNearPair_90 (by decide) ?_
        refine lv_iload_n hx hb d_Shor_readNearPair_91 rfl (lv_at hl 3 rfl) ?_
        obtain ⟨q_92, e_92⟩ : ∃ z, z = (cF_Word_is (cF_ShortForm_kindOfShift 26 0 x1) (8 + ((j_ushr x0 7) &&& 7)) (8 + ((j_ushr x0 7) &&& 7)) 0 x1) := ⟨_, rfl⟩
        refine wVv (As := [.int (cF_ShortForm_kindOfShift 26 0 x1), .int (8 + ((j_ushr x0 7) &&& 7)), .int (8 + ((j_ushr x0 7) &&& 7)), .int 0, .int x1]) (rest := []) e_92 ⟨hx, hb, hml, hown, hts⟩ (cc_Word_is l D tc tb z0 _ a_w w_n w_k w_d w_a w_b w_i (cF_ShortForm_kindOfShift 26 0 x1) (8 + ((j_ushr x0 7) &&& 7)) (8 + ((j_ushr x0 7) &&& 7)) 0 x1) (cwV 5 hts (goodV a_369 a_357 a_358 a_9 a_359) rfl rfl rfl hv_Word_is ⟨Nat.le_of_ble_eq_true rfl, Nat.le_of_ble_eq_true rfl⟩) hP hD hS hA hZ hK hB [0] rfl (by decide) (fun _ => rfl) rfl rfl rfl hl.1 rfl (Nat.le_of_ble_eq_true rfl) d_Shor_readNearPair_92 ⟨Nat.zero_le _, Nat.zero_le _⟩ (fun H locs hP hD hS => ?_)
        have hP : va_P D vwCl [(a_w, .inr (4, [.int w_n, .int q_92.1, .int q_92.2.1, .int q_92.2.2.1, .int q_92.2.2.2.1, .int q_92.2.2.2.2]))] H := hP
        have hD : va_D A [(a_w, .inr (4, [.int w_n, .int q_92.1, .int q_92.2.1, .int q_92.2.2.1, .int q_92.2.2.2.1, .int q_92.2.2.2.2]))] := hD
        refine lv_goto (tgt := 137) hx hb d_Shor_readNearPair_95 (by decide) ?_
        exact W.vret hx hb hr (fun t ht hW => ⟨⟨(q_92.1, q_92.2.1, q_92.2.2.1, q_92.2.2.2.1, q_92.2.2.2.2), rfl, by rw [cF_ShortForm_readNearPair, if_pos c_17, if_neg c_33_0, if_pos c_33_1, ← e_92, cF_ShortForm_readNearPair_2], by rw [ht]; exact hP, va_K.moved hW.alike hK, hD⟩, hS.F ht⟩) hS.2.2 d_Shor_readNearPair_137
      · skip
        by_cases c_33_2 : ((j_ushr x0 10) &&& 3) = 2
        · skip
          refine lv_tableIn (tgt := 98) hx hb d_Shor_readNearPair_33 (by rw [c_33_2]; decide) (by rw [c_33_2]; decide) (by rw [c_33_2] <;> rfl) (by decide) ?_
          refine lv_aload_n hx hb d_Shor_readNearPair_98 rfl (lv_at hl 4 rfl) ?_
          refine lv_bipush (v := 23) hx hb d_Shor_readNearPair_99 (by decide) ?_
          refine lv_iload_n hx hb d_Shor_readNearPair_101 rfl (lv_at hl 1 rfl) ?_
          refine lv_iload_n hx hb d_Shor_readNearPair_102 rfl (lv_at hl 1 rfl) ?_
          refine lv_iconst (v := 0) hx hb d_Shor_readNearPair_103 (by decide) ?_
          refine lv_iload_n hx hb d_Shor_readNearPair_104 rfl (lv_at hl 3 rfl) ?_
          obtain ⟨q_105, e_105⟩ : ∃ z, z = (cF_Word_is 23 (8 + ((j_ushr x0 7) &&& 7)) (8 + ((j_ushr x0 7) &&& 7)) 0 x1) := ⟨_, rfl⟩
          refine wVv (As := [.int 23, .int (8 + ((j_ushr x0 7) &&& 7)), .int (8 + ((j_ushr x0 7) &&& 7)), .int 0, .int x1]) (rest := []) e_105 ⟨hx, hb, hml, hown, hts⟩ (cc_Word_is l D tc tb z0 _ a_w w_n w_k w_d w_a w_b w_i 23 (8 + ((j_ushr x0 7) &&& 7)) (8 + ((j_ushr x0 7) &&& 7)) 0 x1) (cwV 5 hts (goodV a_369 a_357 a_358 a_9 a_359) rfl rfl rfl hv_Word_is ⟨Nat.le_of_ble_eq_true rfl, Nat.le_of_ble_eq_true rfl⟩) hP hD hS hA hZ hK hB [0] rfl (by decide) (fun _ => rfl) rfl rfl rfl hl.1 rfl (Nat.le_of_ble_eq_true rfl) d_Shor_readNearPair_105 ⟨Nat.zero_le _, Nat.zero_le _⟩ (fun H locs hP hD hS => ?_)
          have hP : va_P D vwCl [(a_w, .inr (4, [.int w_n, .int q_105.1, .int q_105.2.1, .int q_105.2.2.1, .int q_105.2.2.2.1, .int q_105.2.2.2.2]))] H := hP
          have hD : va_D A [(a_w, .inr (4, [.int w_n, .int q_105.1, .int q_105.2.1, .int q_105.2.2.1, .int q_105.2.2.2.1, .int q_105.2.2.2.2]))] := hD
          refine lv_goto (tgt := 137) hx hb d_Shor_readNearPair_108 (by decide) ?_
          exact W.vret hx hb hr (fun t ht hW => ⟨⟨(q_105.1, q_105.2.1, q_105.2.2.1, q_105.2.2.2.1, q_105.2.2.2.2), rfl, by rw [cF_ShortForm_readNearPair, if_pos c_17, if_neg c_33_0, if_neg c_33_1, if_pos c_33_2, ← e_105, cF_ShortForm_readNearPair_3], by rw [ht]; exact hP, va_K.moved hW.alike hK, hD⟩, hS.F ht⟩) hS.2.2 d_Shor_readNearPair_137
        · skip
          refine lv_tableOut (tgt := 111) hx hb d_Shor_readNearPair_33 (by have n_0 := lv_neT (a := 0) c_33_0 (by decide); have n_1 := lv_neT (a := 1) c_33_1 (by decide); have n_2 := lv_neT (a := 2) c_33_2 (by decide); omega) (by decide) ?_
          refine lv_aload_n hx hb d_Shor_readNearPair_111 rfl (lv_at hl 4 rfl) ?_
          refine lv_iload_n hx hb d_Shor_readNearPair_112 rfl (lv_at hl 2 rfl) ?_
          refine lv_iconst (v := 5) hx hb d_Shor_readNearPair_113 (by decide) ?_
          refine lv_iushr (v := (j_ushr x0 5)) hx hb d_Shor_readNearPair_114 rfl ?_
          refine lv_iconst (v := 3) hx hb d_Shor_readNearPair_115 (by decide) ?_
          refine lv_iand hx hb d_Shor_readNearPair_116 ?_
          refine lv_iload hx hb d_Shor_readNearPair_117 (lv_at hl 0 rfl) ?_
          refine roSi (As := [.int ((j_ushr x0 5) &&& 3), .int 0]) (rest := [.ref a_w]) ⟨hx, hb, hml, hown, hts⟩ (cc_ShortForm_kindOfPair l D tc tb z0 ((j_ushr x0 5) &&& 3) 0) (va_cwS 2 hts (goodS a_395 a_396 a_11 a_397) rfl rfl rfl hs_Shor_kindOfPair ⟨Nat.le_of_ble_eq_true rfl, Nat.le_of_ble_eq_true rfl⟩) (hP.sub [] rfl) hK (hB.kept hS hZ) rfl hl.1 rfl (Nat.le_of_ble_eq_true rfl) d_Shor_readNearPair_119 ⟨Nat.zero_le _, Nat.zero_le _⟩ ?_
          refine lv_iload_n hx hb d_Shor_readNearPair_122 rfl (lv_at hl 1 rfl) ?_
          refine lv_iload_n hx hb d_Shor_readNearPair_123 rfl (lv_at hl 1 rfl) ?_
          refine lv_bipush (v := 8) hx hb d_Shor_readNearPair_124 (by decide) ?_
          refine lv_iload_n hx hb d_Shor_readNearPair_126 rfl (lv_at hl 2 rfl) ?_
          refine lv_iconst (v := 2) hx hb d_Shor_readNearPair_127 (by decide) ?_
          refine lv_iushr (v := (j_ushr x0 2)) hx hb d_Shor_readNearPair_128 rfl ?_
          refine lv_bipush (v := 7) hx hb d_Shor_readNearPair_129 (by decide) ?_
          refine lv_iand hx hb d_Shor_readNearPair_131 ?_
          refine lv_iadd hx hb d_Shor_readNearPair_132 ?_
          refine lv_iconst (v := 0) hx hb d_Shor_readNearPair_133 (by decide) ?_
          obtain ⟨q_134, e_134⟩ : ∃ z, z = (cF_Word_is (cF_ShortForm_kindOfPair ((j_ushr x0 5) &&& 3) 0) (8 + ((j_ushr x0 7) &&& 7)) (8 + ((j_ushr x0 7) &&& 7)) (8 + ((j_ushr x0 2) &&& 7)) 0) := ⟨_, rfl⟩
          refine wVv (As := [.int (cF_ShortForm_kindOfPair ((j_ushr x0 5) &&& 3) 0), .int (8 + ((j_ushr x0 7) &&& 7)), .int (8 + ((j_ushr x0 7) &&& 7)), .int (8 + ((j_ushr x0 2) &&& 7)), .int 0]) (rest := []) e_134 ⟨hx, hb, hml, hown, hts⟩ (cc_Word_is l D tc tb z0 _ a_w w_n w_k w_d w_a w_b w_i (cF_ShortForm_kindOfPair ((j_ushr x0 5) &&& 3) 0) (8 + ((j_ushr x0 7) &&& 7)) (8 + ((j_ushr x0 7) &&& 7)) (8 + ((j_ushr x0 2) &&& 7)) 0) (cwV 5 hts (goodV a_369 a_357 a_358 a_9 a_359) rfl rfl rfl hv_Word_is ⟨Nat.le_of_ble_eq_true rfl, Nat.le_of_ble_eq_true rfl⟩) hP hD hS hA hZ hK hB [0] rfl (by decide) (fun _ => rfl) rfl rfl rfl hl.1 rfl (Nat.le_of_ble_eq_true rfl) d_Shor_readNearPair_134 ⟨Nat.zero_le _, Nat.zero_le _⟩ (fun H locs hP hD hS => ?_)
          have hP : va_P D vwCl [(a_w, .inr (4, [.int w_n, .int q_134.1, .int q_134.2.1, .int q_134.2.2.1, .int q_134.2.2.2.1, .int q_134.2.2.2.2]))] H := hP
          have hD : va_D A [(a_w, .inr (4, [.int w_n, .int q_134.1, .int q_134.2.1, .int q_134.2.2.1, .int q_134.2.2.2.1, .int q_134.2.2.2.2]))] := hD
          exact W.vret hx hb hr (fun t ht hW => ⟨⟨(q_134.1, q_134.2.1, q_134.2.2.1, q_134.2.2.2.1, q_134.2.2.2.2), rfl, by rw [cF_ShortForm_readNearPair, if_pos c_17, if_neg c_33_0, if_neg c_33_1, if_neg c_33_2, ← e_134, cF_ShortForm_readNearPair_4], by rw [ht]; exact hP, va_K.moved hW.alike hK, hD⟩, hS.F ht⟩) hS.2.2 d_Shor_readNearPair_137
  · skip
    refine lv_iconst (v := 1) hx hb d_Shor_readNearPair_20 (by decide) ?_
    refine lv_goto (tgt := 25) hx hb d_Shor_readNearPair_21 (by decide) ?_
    refine lv_istore (lv' := [(4, .int 1), (3, .int (8 + ((j_ushr x0 7) &&& 7))), (0, .int x0), (1, .int x1), (2, .ref a_w)]) hx hb d_Shor_readNearPair_25 hl (by decide) rfl (fun ls hl => ?_)
    refine lv_iload_n hx hb d_Shor_readNearPair_27 rfl (lv_at hl 2 rfl) ?_
    refine lv_bipush (v := 10) hx hb d_Shor_readNearPair_28 (by decide) ?_
    refine lv_iushr (v := (j_ushr x0 10)) hx hb d_Shor_readNearPair_30 rfl ?_
    refine lv_iconst (v := 3) hx hb d_Shor_readNearPair_31 (by decide) ?_
    refine lv_iand hx hb d_Shor_readNearPair_32 ?_
    by_cases c_33_0 : ((j_ushr x0 10) &&& 3) = 0
    · skip
      refine lv_tableIn (tgt := 60) hx hb d_Shor_readNearPair_33 (by rw [c_33_0]; decide) (by rw [c_33_0]; decide) (by rw [c_33_0] <;> rfl) (by decide) ?_
      refine lv_aload_n hx hb d_Shor_readNearPair_60 rfl (lv_at hl 4 rfl) ?_
      refine lv_bipush (v := 25) hx hb d_Shor_readNearPair_61 (by decide) ?_
      refine lv_iload hx hb d_Shor_readNearPair_63 (lv_at hl 0 rfl) ?_
      refine lv_iload_n hx hb d_Shor_readNearPair_65 rfl (lv_at hl 3 rfl) ?_
      refine roSi (As := [.int 25, .int 1, .int x1]) (rest := [.ref a_w]) ⟨hx, hb, hml, hown, hts⟩ (cc_ShortForm_kindOfShift l D tc tb z0 25 1 x1) (va_cwS 3 hts (goodS a_392 a_393 a_11 a_394) rfl rfl rfl hs_Shor_kindOfShift ⟨Nat.le_of_ble_eq_true rfl, Nat.le_of_ble_eq_true rfl⟩) (hP.sub [] rfl) hK (hB.kept hS hZ) rfl hl.1 rfl (Nat.le_of_ble_eq_true rfl) d_Shor_readNearPair_66 ⟨Nat.zero_le _, Nat.zero_le _⟩ ?_
      refine lv_iload_n hx hb d_Shor_readNearPair_69 rfl (lv_at hl 1 rfl) ?_
      refine lv_iload_n hx hb d_Shor_readNearPair_70 rfl (lv_at hl 1 rfl) ?_
      refine lv_iconst (v := 0) hx hb d_Shor_readNearPair_71 (by decide) ?_
      refine lv_iload_n hx hb d_Shor_readNearPair_72 rfl (lv_at hl 3 rfl) ?_
      obtain ⟨q_73, e_73⟩ : ∃ z, z = (cF_Word_is (cF_ShortForm_kindOfShift 25 1 x1) (8 + ((j_ushr x0 7) &&& 7)) (8 + ((j_ushr x0 7) &&& 7)) 0 x1) := ⟨_, rfl⟩
      refine wVv (As := [.int (cF_ShortForm_kindOfShift 25 1 x1), .int (8 + ((j_ushr x0 7) &&& 7)), .int (8 + ((j_ushr x0 7) &&& 7)), .int 0, .int x1]) (rest := []) e_73 ⟨hx, hb, hml, hown, hts⟩ (cc_Word_is l D tc tb z0 _ a_w w_n w_k w_d w_a w_b w_i (cF_ShortForm_kindOfShift 25 1 x1) (8 + ((j_ushr x0 7) &&& 7)) (8 + ((j_ushr x0 7) &&& 7)) 0 x1) (cwV 5 hts (goodV a_369 a_357 a_358 a_9 a_359) rfl rfl rfl hv_Word_is ⟨Nat.le_of_ble_eq_true rfl, Nat.le_of_ble_eq_true rfl⟩) hP hD hS hA hZ hK hB [0] rfl (by decide) (fun _ => rfl) rfl rfl rfl hl.1 rfl (Nat.le_of_ble_eq_true rfl) d_Shor_readNearPair_73 ⟨Nat.zero_le _, Nat.zero_le _⟩ (fun H locs hP hD hS => ?_)
      have hP : va_P D vwCl [(a_w, .inr (4, [.int w_n, .int q_73.1, .int q_73.2.1, .int q_73.2.2.1, .int q_73.2.2.2.1, .int q_73.2.2.2.2]))] H := hP
      have hD : va_D A [(a_w, .inr (4, [.int w_n, .int q_73.1, .int q_73.2.1, .int q_73.2.2.1, .int q_73.2.2.2.1, .int q_73.2.2.2.2]))] := hD
      refine lv_goto (tgt := 137) hx hb d_Shor_readNearPair_76 (by decide) ?_
      exact W.vret hx hb hr (fun t ht hW => ⟨⟨(q_73.1, q_73.2.1, q_73.2.2.1, q_73.2.2.2.1, q_73.2.2.2.2), rfl, by rw [cF_ShortForm_readNearPair, if_neg c_17, if_pos c_33_0, ← e_73, cF_ShortForm_readNearPair_5], by rw [ht]; exact hP, va_K.moved hW.alike hK, hD⟩, hS.F ht⟩) hS.2.2 d_Shor_readNearPair_137
    · skip
      by_cases c_33_1 : ((j_ushr x0 10) &&& 3) = 1
      · skip
        refine lv_tableIn (tgt := 79) hx hb d_Shor_readNearPair_33 (by rw [c_33_1]; decide) (by rw [c_33_1]; decide) (by rw [c_33_1] <;> rfl) (by decide) ?_
        refine lv_aload_n hx hb d_Shor_readNearPair_79 rfl (lv_at hl 4 rfl) ?_
        refine lv_bipush (v := 26) hx hb d_Shor_readNearPair_80 (by decide) ?_
        refine lv_iload hx hb d_Shor_readNearPair_82 (lv_at hl 0 rfl) ?_
        refine lv_iload_n hx hb d_Shor_readNearPair_84 rfl (lv_at hl 3 rfl) ?_
        refine roSi (As := [.int 26, .int 1, .int x1]) (rest := [.ref a_w]) ⟨hx, hb, hml, hown, hts⟩ (cc_ShortForm_kindOfShift l D tc tb z0 26 1 x1) (va_cwS 3 hts (goodS a_392 a_393 a_11 a_394) rfl rfl rfl hs_Shor_kindOfShift ⟨Nat.le_of_ble_eq_true rfl, Nat.le_of_ble_eq_true rfl⟩) (hP.sub [] rfl) hK (hB.kept hS hZ) rfl hl.1 rfl (Nat.le_of_ble_eq_true rfl) d_Shor_readNearPair_85 ⟨Nat.zero_le _, Nat.zero_le _⟩ ?_
        refine lv_iload_n hx hb d_Shor_readNearPair_88 rfl (lv_at hl 1 rfl) ?_
        refine lv_iload_n hx hb d_Shor_readNearPair_89 rfl (lv_at hl 1 rfl) ?_
        refine lv_iconst (v := 0) hx hb d_Shor_readNearPair_90 (by decide) ?_
        refine lv_iload_n hx hb d_Shor_readNearPair_91 rfl (lv_at hl 3 rfl) ?_
        obtain ⟨q_92, e_92⟩ : ∃ z, z = (cF_Word_is (cF_ShortForm_kindOfShift 26 1 x1) (8 + ((j_ushr x0 7) &&& 7)) (8 + ((j_ushr x0 7) &&& 7)) 0 x1) := ⟨_, rfl⟩
        refine wVv (As := [.int (cF_ShortForm_kindOfShift 26 1 x1), .int (8 + ((j_ushr x0 7) &&& 7)), .int (8 + ((j_ushr x0 7) &&& 7)), .int 0, .int x1]) (rest := []) e_92 ⟨hx, hb, hml, hown, hts⟩ (cc_Word_is l D tc tb z0 _ a_w w_n w_k w_d w_a w_b w_i (cF_ShortForm_kindOfShift 26 1 x1) (8 + ((j_ushr x0 7) &&& 7)) (8 + ((j_ushr x0 7) &&& 7)) 0 x1) (cwV 5 hts (goodV a_369 a_357 a_358 a_9 a_359) rfl rfl rfl hv_Word_is ⟨Nat.le_of_ble_eq_true rfl, Nat.le_of_ble_eq_true rfl⟩) hP hD hS hA hZ hK hB [0] rfl (by decide) (fun _ => rfl) rfl rfl rfl hl.1 rfl (Nat.le_of_ble_eq_true rfl) d_Shor_readNearPair_92 ⟨Nat.zero_le _, Nat.zero_le _⟩ (fun H locs hP hD hS => ?_)
        have hP : va_P D vwCl [(a_w, .inr (4, [.int w_n, .int q_92.1, .int q_92.2.1, .int q_92.2.2.1, .int q_92.2.2.2.1, .int q_92.2.2.2.2]))] H := hP
        have hD : va_D A [(a_w, .inr (4, [.int w_n, .int q_92.1, .int q_92.2.1, .int q_92.2.2.1, .int q_92.2.2.2.1, .int q_92.2.2.2.2]))] := hD
        refine lv_goto (tgt := 137) hx hb d_Shor_readNearPair_95 (by decide) ?_
        exact W.vret hx hb hr (fun t ht hW => ⟨⟨(q_92.1, q_92.2.1, q_92.2.2.1, q_92.2.2.2.1, q_92.2.2.2.2), rfl, by rw [cF_ShortForm_readNearPair, if_neg c_17, if_neg c_33_0, if_pos c_33_1, ← e_92, cF_ShortForm_readNearPair_6], by rw [ht]; exact hP, va_K.moved hW.alike hK, hD⟩, hS.F ht⟩) hS.2.2 d_Shor_readNearPair_137
      · skip
        by_cases c_33_2 : ((j_ushr x0 10) &&& 3) = 2
        · skip
          refine lv_tableIn (tgt := 98) hx hb d_Shor_readNearPair_33 (by rw [c_33_2]; decide) (by rw [c_33_2]; decide) (by rw [c_33_2] <;> rfl) (by decide) ?_
          refine lv_aload_n hx hb d_Shor_readNearPair_98 rfl (lv_at hl 4 rfl) ?_
          refine lv_bipush (v := 23) hx hb d_Shor_readNearPair_99 (by decide) ?_
          refine lv_iload_n hx hb d_Shor_readNearPair_101 rfl (lv_at hl 1 rfl) ?_
          refine lv_iload_n hx hb d_Shor_readNearPair_102 rfl (lv_at hl 1 rfl) ?_
          refine lv_iconst (v := 0) hx hb d_Shor_readNearPair_103 (by decide) ?_
          refine lv_iload_n hx hb d_Shor_readNearPair_104 rfl (lv_at hl 3 rfl) ?_
          obtain ⟨q_105, e_105⟩ : ∃ z, z = (cF_Word_is 23 (8 + ((j_ushr x0 7) &&& 7)) (8 + ((j_ushr x0 7) &&& 7)) 0 x1) := ⟨_, rfl⟩
          refine wVv (As := [.int 23, .int (8 + ((j_ushr x0 7) &&& 7)), .int (8 + ((j_ushr x0 7) &&& 7)), .int 0, .int x1]) (rest := []) e_105 ⟨hx, hb, hml, hown, hts⟩ (cc_Word_is l D tc tb z0 _ a_w w_n w_k w_d w_a w_b w_i 23 (8 + ((j_ushr x0 7) &&& 7)) (8 + ((j_ushr x0 7) &&& 7)) 0 x1) (cwV 5 hts (goodV a_369 a_357 a_358 a_9 a_359) rfl rfl rfl hv_Word_is ⟨Nat.le_of_ble_eq_true rfl, Nat.le_of_ble_eq_true rfl⟩) hP hD hS hA hZ hK hB [0] rfl (by decide) (fun _ => rfl) rfl rfl rfl hl.1 rfl (Nat.le_of_ble_eq_true rfl) d_Shor_readNearPair_105 ⟨Nat.zero_le _, Nat.zero_le _⟩ (fun H locs hP hD hS => ?_)
          have hP : va_P D vwCl [(a_w, .inr (4, [.int w_n, .int q_105.1, .int q_105.2.1, .int q_105.2.2.1, .int q_105.2.2.2.1, .int q_105.2.2.2.2]))] H := hP
          have hD : va_D A [(a_w, .inr (4, [.int w_n, .int q_105.1, .int q_105.2.1, .int q_105.2.2.1, .int q_105.2.2.2.1, .int q_105.2.2.2.2]))] := hD
          refine lv_goto (tgt := 137) hx hb d_Shor_readNearPair_108 (by decide) ?_
          exact W.vret hx hb hr (fun t ht hW => ⟨⟨(q_105.1, q_105.2.1, q_105.2.2.1, q_105.2.2.2.1, q_105.2.2.2.2), rfl, by rw [cF_ShortForm_readNearPair, if_neg c_17, if_neg c_33_0, if_neg c_33_1, if_pos c_33_2, ← e_105, cF_ShortForm_readNearPair_7], by rw [ht]; exact hP, va_K.moved hW.alike hK, hD⟩, hS.F ht⟩) hS.2.2 d_Shor_readNearPair_137
        · skip
          refine lv_tableOut (tgt := 111) hx hb d_Shor_readNearPair_33 (by have n_0 := lv_neT (a := 0) c_33_0 (by decide); have n_1 := lv_neT (a := 1) c_33_1 (by decide); have n_2 := lv_neT (a := 2) c_33_2 (by decide); omega) (by decide) ?_
          refine lv_aload_n hx hb d_Shor_readNearPair_111 rfl (lv_at hl 4 rfl) ?_
          refine lv_iload_n hx hb d_Shor_readNearPair_112 rfl (lv_at hl 2 rfl) ?_
          refine lv_iconst (v := 5) hx hb d_Shor_readNearPair_113 (by decide) ?_
          refine lv_iushr (v := (j_ushr x0 5)) hx hb d_Shor_readNearPair_114 rfl ?_
          refine lv_iconst (v := 3) hx hb d_Shor_readNearPair_115 (by decide) ?_
          refine lv_iand hx hb d_Shor_readNearPair_116 ?_
          refine lv_iload hx hb d_Shor_readNearPair_117 (lv_at hl 0 rfl) ?_
          refine roSi (As := [.int ((j_ushr x0 5) &&& 3), .int 1]) (rest := [.ref a_w]) ⟨hx, hb, hml, hown, hts⟩ (cc_ShortForm_kindOfPair l D tc tb z0 ((j_ushr x0 5) &&& 3) 1) (va_cwS 2 hts (goodS a_395 a_396 a_11 a_397) rfl rfl rfl hs_Shor_kindOfPair ⟨Nat.le_of_ble_eq_true rfl, Nat.le_of_ble_eq_true rfl⟩) (hP.sub [] rfl) hK (hB.kept hS hZ) rfl hl.1 rfl (Nat.le_of_ble_eq_true rfl) d_Shor_readNearPair_119 ⟨Nat.zero_le _, Nat.zero_le _⟩ ?_
          refine lv_iload_n hx hb d_Shor_readNearPair_122 rfl (lv_at hl 1 rfl) ?_
          refine lv_iload_n hx hb d_Shor_readNearPair_123 rfl (lv_at hl 1 rfl) ?_
          refine lv_bipush (v := 8) hx hb d_Shor_readNearPair_124 (by decide) ?_
          refine lv_iload_n hx hb d_Shor_readNearPair_126 rfl (lv_at hl 2 rfl) ?_
          refine lv_iconst (v := 2) hx hb d_Shor_readNearPair_127 (by decide) ?_
          refine lv_iushr (v := (j_ushr x0 2)) hx hb d_Shor_readNearPair_128 rfl ?_
          refine lv_bipush (v := 7) hx hb d_Shor_readNearPair_129 (by decide) ?_
          refine lv_iand hx hb d_Shor_readNearPair_131 ?_
          refine lv_iadd hx hb d_Shor_readNearPair_132 ?_
          refine lv_iconst (v := 0) hx hb d_Shor_readNearPair_133 (by decide) ?_
          obtain ⟨q_134, e_134⟩ : ∃ z, z = (cF_Word_is (cF_ShortForm_kindOfPair ((j_ushr x0 5) &&& 3) 1) (8 + ((j_ushr x0 7) &&& 7)) (8 + ((j_ushr x0 7) &&& 7)) (8 + ((j_ushr x0 2) &&& 7)) 0) := ⟨_, rfl⟩
          refine wVv (As := [.int (cF_ShortForm_kindOfPair ((j_ushr x0 5) &&& 3) 1), .int (8 + ((j_ushr x0 7) &&& 7)), .int (8 + ((j_ushr x0 7) &&& 7)), .int (8 + ((j_ushr x0 2) &&& 7)), .int 0]) (rest := []) e_134 ⟨hx, hb, hml, hown, hts⟩ (cc_Word_is l D tc tb z0 _ a_w w_n w_k w_d w_a w_b w_i (cF_ShortForm_kindOfPair ((j_ushr x0 5) &&& 3) 1) (8 + ((j_ushr x0 7) &&& 7)) (8 + ((j_ushr x0 7) &&& 7)) (8 + ((j_ushr x0 2) &&& 7)) 0) (cwV 5 hts (goodV a_369 a_357 a_358 a_9 a_359) rfl rfl rfl hv_Word_is ⟨Nat.le_of_ble_eq_true rfl, Nat.le_of_ble_eq_true rfl⟩) hP hD hS hA hZ hK hB [0] rfl (by decide) (fun _ => rfl) rfl rfl rfl hl.1 rfl (Nat.le_of_ble_eq_true rfl) d_Shor_readNearPair_134 ⟨Nat.zero_le _, Nat.zero_le _⟩ (fun H locs hP hD hS => ?_)
          have hP : va_P D vwCl [(a_w, .inr (4, [.int w_n, .int q_134.1, .int q_134.2.1, .int q_134.2.2.1, .int q_134.2.2.2.1, .int q_134.2.2.2.2]))] H := hP
          have hD : va_D A [(a_w, .inr (4, [.int w_n, .int q_134.1, .int q_134.2.1, .int q_134.2.2.1, .int q_134.2.2.2.1, .int q_134.2.2.2.2]))] := hD
          exact W.vret hx hb hr (fun t ht hW => ⟨⟨(q_134.1, q_134.2.1, q_134.2.2.1, q_134.2.2.2.1, q_134.2.2.2.2), rfl, by rw [cF_ShortForm_readNearPair, if_neg c_17, if_neg c_33_0, if_neg c_33_1, if_neg c_33_2, ← e_134, cF_ShortForm_readNearPair_8], by rw [ht]; exact hP, va_K.moved hW.alike hK, hD⟩, hS.F ht⟩) hS.2.2 d_Shor_readNearPair_137
def cF_ShortForm_readSecond_1  (q_68 : Int32 × Int32 × Int32 × Int32 × Int32) : Int32 × Int32 × Int32 × Int32 × Int32 := (q_68.1, q_68.2.1, q_68.2.2.1, q_68.2.2.2.1, q_68.2.2.2.2)
def cF_ShortForm_readSecond_2  (q_83 : Int32 × Int32 × Int32 × Int32 × Int32) : Int32 × Int32 × Int32 × Int32 × Int32 := (q_83.1, q_83.2.1, q_83.2.2.1, q_83.2.2.2.1, q_83.2.2.2.2)
def cF_ShortForm_readSecond_3  (q_104 : Int32 × Int32 × Int32 × Int32 × Int32) : Int32 × Int32 × Int32 × Int32 × Int32 := (q_104.1, q_104.2.1, q_104.2.2.1, q_104.2.2.2.1, q_104.2.2.2.2)
def cF_ShortForm_readSecond_4  (q_104 : Int32 × Int32 × Int32 × Int32 × Int32) : Int32 × Int32 × Int32 × Int32 × Int32 := (q_104.1, q_104.2.1, q_104.2.2.1, q_104.2.2.2.1, q_104.2.2.2.2)
def cF_ShortForm_readSecond_5  (q_114 : Int32 × Int32 × Int32 × Int32 × Int32) : Int32 × Int32 × Int32 × Int32 × Int32 := (q_114.1, q_114.2.1, q_114.2.2.1, q_114.2.2.2.1, q_114.2.2.2.2)
def cF_ShortForm_readSecond_6  (q_123 : Int32 × Int32 × Int32 × Int32 × Int32) : Int32 × Int32 × Int32 × Int32 × Int32 := (q_123.1, q_123.2.1, q_123.2.2.1, q_123.2.2.2.1, q_123.2.2.2.2)
def cF_ShortForm_readSecond_7  (q_138 : Int32 × Int32 × Int32 × Int32 × Int32) : Int32 × Int32 × Int32 × Int32 × Int32 := (q_138.1, q_138.2.1, q_138.2.2.1, q_138.2.2.2.1, q_138.2.2.2.2)
def cF_ShortForm_readSecond_8  (q_159 : Int32 × Int32 × Int32 × Int32 × Int32) : Int32 × Int32 × Int32 × Int32 × Int32 := (q_159.1, q_159.2.1, q_159.2.2.1, q_159.2.2.2.1, q_159.2.2.2.2)
def cF_ShortForm_readSecond_9  (q_180 : Int32 × Int32 × Int32 × Int32 × Int32) : Int32 × Int32 × Int32 × Int32 × Int32 := (q_180.1, q_180.2.1, q_180.2.2.1, q_180.2.2.2.1, q_180.2.2.2.2)
def cF_ShortForm_readSecond (w_k : Int32) (w_d : Int32) (w_a : Int32) (w_b : Int32) (w_i : Int32) (x0 : Int32) : Int32 × Int32 × Int32 × Int32 × Int32 := (if (j_ushr x0 13) = 0 then (cF_ShortForm_readSecond_1 (cF_ShortForm_readAddition w_k w_d w_a w_b w_i x0 ((j_ushr x0 7) &&& 31) (cF_ShortForm_sixBits x0))) else (if (j_ushr x0 13) = 1 then (cF_ShortForm_readSecond_2 (cF_Word_is 2 1 0 0 (cF_ShortForm_immediateOfJump x0))) else (if (j_ushr x0 13) = 2 then (if ((j_ushr x0 7) &&& 31) = 0 then (cF_ShortForm_readSecond_3 (cF_Word_is (-1) ((j_ushr x0 7) &&& 31) 0 0 (cF_ShortForm_sixBits x0))) else (cF_ShortForm_readSecond_4 (cF_Word_is 18 ((j_ushr x0 7) &&& 31) 0 0 (cF_ShortForm_sixBits x0)))) else (if (j_ushr x0 13) = 3 then (cF_ShortForm_readSecond_5 (cF_ShortForm_readUpper w_k w_d w_a w_b w_i x0 ((j_ushr x0 7) &&& 31) (cF_ShortForm_sixBits x0))) else (if (j_ushr x0 13) = 4 then (cF_ShortForm_readSecond_6 (cF_ShortForm_readNearPair x0 (cF_ShortForm_sixBits x0))) else (if (j_ushr x0 13) = 5 then (cF_ShortForm_readSecond_7 (cF_Word_is 2 0 0 0 (cF_ShortForm_immediateOfJump x0))) else (if (j_ushr x0 13) = 6 then (cF_ShortForm_readSecond_8 (cF_Word_is 4 0 (8 + (((j_ushr x0 7) &&& 31) &&& 7)) 0 (cF_ShortForm_immediateOfBranch x0))) else (if (j_ushr x0 13) = 7 then (cF_ShortForm_readSecond_9 (cF_Word_is 5 0 (8 + (((j_ushr x0 7) &&& 31) &&& 7)) 0 (cF_ShortForm_immediateOfBranch x0))) else (w_k, w_d, w_a, w_b, w_i)))))))))
set_option maxHeartbeats 4000000 in
set_option maxRecDepth 100000 in
theorem cc_ShortForm_readSecond (l : Launch) (D : va_G) (tc : Nat → ClassId) (tb : Nat → Nat) (z0 : Nat) (sz : Nat) (a_w : Nat) (w_n : Int32) (w_k : Int32) (w_d : Int32) (w_a : Int32) (w_b : Int32) (w_i : Int32) (x0 : Int32) : Met l y_Shor_readSecond (wM y_Shor_readSecond b_Shor_readSecond 4 none) ({ frames := 2, cells := 0, slots := 0, locals := 49 }) (va_Pc [.int x0, .ref a_w] (Pw D tc tb z0 [(a_w, .inr (4, [.int w_n, .int w_k, .int w_d, .int w_a, .int w_b, .int w_i]))] sz)) (va_Qv (fun u : Int32 × Int32 × Int32 × Int32 × Int32 => u = (cF_ShortForm_readSecond w_k w_d w_a w_b w_i x0)) (Bw D tc (va_A [(a_w, .inr (4, [.int w_n, .int w_k, .int w_d, .int w_a, .int w_b, .int w_i]))] sz) (fun u => [(a_w, .inr (4, [.int w_n, .int u.1, .int u.2.1, .int u.2.2.1, .int u.2.2.2.1, .int u.2.2.2.2]))])) (va_A [(a_w, .inr (4, [.int w_n, .int w_k, .int w_d, .int w_a, .int w_b, .int w_i]))] sz)) 0 0 (va_A [(a_w, .inr (4, [.int w_n, .int w_k, .int w_d, .int w_a, .int w_b, .int w_i]))] sz) := by
  refine Met.ofW (cc := b_Shor_readSecond) (maxL := 4) (ret := none) (by decide) rfl ?_
  intro p e s m args below meth c s₁ B hml hv
  obtain ⟨rfl, hsz, hP, hK, hB, hD0, hZ0⟩ := hv
  have hx := B.exec
  have hb := B.bytes
  have hr := B.returns
  have hts : ∀ w ∈ wALL, w.before _ s = true := fun w h => atoms_spec (ws := (wM y_Shor_readSecond b_Shor_readSecond 4 none)) B.pre w (List.mem_cons_of_mem _ h)
  have hown : s.vm.findClass "StepMachine$ShortForm" = some m.cls := findClass_of_methodNamed B.named
  have hlocks := B.notSynchronized
  subst hsz
  have hD := hD0.self (sz := s.heap.size)
  generalize hAe : va_A [(a_w, .inr (4, [.int w_n, .int w_k, .int w_d, .int w_a, .int w_b, .int w_i]))] s.heap.size = A at hD ⊢
  have hZ : ∀ q : Nat, A q → z0 ≤ q := by rw [← hAe]; exact hZ0
  have hA : ∀ q : Nat, s.heap.size ≤ q → A q := fun q h => by rw [← hAe]; exact Or.inr h
  have hS : va_S A s.heap s.heap [] := va_S.rf
  have hl := lv_entry ([.int x0, .ref a_w]) (n := 4) (Nat.le_of_ble_eq_true rfl)
  rw [lg_entry_eq]
  generalize (lg_sl ([.int x0, .ref a_w]) ++ List.replicate (4 - (lg_sl ([.int x0, .ref a_w])).length) Slot.unset).toArray = ls at hl ⊢
  have hl : lv_has ls 4 [(0, .int x0), (1, .ref a_w)] := hl
  refine lv_iload_n hx hb d_Shor_readSecond_0 rfl (lv_at hl 0 rfl) ?_
  refine lv_bipush (v := 7) hx hb d_Shor_readSecond_1 (by decide) ?_
  refine lv_iushr (v := (j_ushr x0 7)) hx hb d_Shor_readSecond_3 rfl ?_
  refine lv_bipush (v := 31) hx hb d_Shor_readSecond_4 (by decide) ?_
  refine lv_iand hx hb d_Shor_readSecond_6 ?_
  refine lv_istore_n (lv' := [(2, .int ((j_ushr x0 7) &&& 31)), (0, .int x0), (1, .ref a_w)]) hx hb d_Shor_readSecond_7 rfl hl (by decide) rfl (fun ls hl => ?_)
  refine lv_iload_n hx hb d_Shor_readSecond_8 rfl (lv_at hl 1 rfl) ?_
  refine roSi (As := [.int x0]) (rest := []) ⟨hx, hb, hml, hown, hts⟩ (cc_ShortForm_sixBits l D tc tb z0 x0) (va_cwS 1 hts (goodS a_373 a_374 a_11 a_375) rfl rfl rfl hs_Shor_sixBits ⟨Nat.le_of_ble_eq_true rfl, Nat.le_of_ble_eq_true rfl⟩) (hP.sub [] rfl) hK (hB.kept hS hZ) rfl hl.1 rfl (Nat.le_of_ble_eq_true rfl) d_Shor_readSecond_9 ⟨Nat.zero_le _, Nat.zero_le _⟩ ?_
  refine lv_istore_n (lv' := [(3, .int (cF_ShortForm_sixBits x0)), (2, .int ((j_ushr x0 7) &&& 31)), (0, .int x0), (1, .ref a_w)]) hx hb d_Shor_readSecond_12 rfl hl (by decide) rfl (fun ls hl => ?_)
  refine lv_iload_n hx hb d_Shor_readSecond_13 rfl (lv_at hl 2 rfl) ?_
  refine lv_bipush (v := 13) hx hb d_Shor_readSecond_14 (by decide) ?_
  refine lv_iushr (v := (j_ushr x0 13)) hx hb d_Shor_readSecond_16 rfl ?_
  by_cases c_17_0 : (j_ushr x0 13) = 0
  · skip
    refine lv_tableIn (tgt := 64) hx hb d_Shor_readSecond_17 (by rw [c_17_0]; decide) (by rw [c_17_0]; decide) (by rw [c_17_0] <;> rfl) (by decide) ?_
    refine lv_iload_n hx hb d_Shor_readSecond_64 rfl (lv_at hl 2 rfl) ?_
    refine lv_iload_n hx hb d_Shor_readSecond_65 rfl (lv_at hl 1 rfl) ?_
    refine lv_iload_n hx hb d_Shor_readSecond_66 rfl (lv_at hl 0 rfl) ?_
    refine lv_aload_n hx hb d_Shor_readSecond_67 rfl (lv_at hl 3 rfl) ?_
    obtain ⟨q_68, e_68⟩ : ∃ z, z = (cF_ShortForm_readAddition w_k w_d w_a w_b w_i x0 ((j_ushr x0 7) &&& 31) (cF_ShortForm_sixBits x0)) := ⟨_, rfl⟩
    refine wSv (As := [.int x0, .int ((j_ushr x0 7) &&& 31), .int (cF_ShortForm_sixBits x0), .ref a_w]) (rest := []) e_68 ⟨hx, hb, hml, hown, hts⟩ (cc_ShortForm_readAddition l D tc tb z0 _ a_w w_n w_k w_d w_a w_b w_i x0 ((j_ushr x0 7) &&& 31) (cF_ShortForm_sixBits x0)) (va_cwS 4 hts (goodS a_379 a_380 a_11 a_381) rfl rfl rfl hs_Shor_readAddition ⟨Nat.le_of_ble_eq_true rfl, Nat.le_of_ble_eq_true rfl⟩) hP hD hS hA hZ hK hB [0] rfl (by decide) (fun _ => rfl) rfl hl.1 rfl (Nat.le_of_ble_eq_true rfl) d_Shor_readSecond_68 ⟨Nat.zero_le _, Nat.zero_le _⟩ (fun H locs hP hD hS => ?_)
    have hP : va_P D vwCl [(a_w, .inr (4, [.int w_n, .int q_68.1, .int q_68.2.1, .int q_68.2.2.1, .int q_68.2.2.2.1, .int q_68.2.2.2.2]))] H := hP
    have hD : va_D A [(a_w, .inr (4, [.int w_n, .int q_68.1, .int q_68.2.1, .int q_68.2.2.1, .int q_68.2.2.2.1, .int q_68.2.2.2.2]))] := hD
    refine lv_goto (tgt := 186) hx hb d_Shor_readSecond_71 (by decide) ?_
    exact W.vret hx hb hr (fun t ht hW => ⟨⟨(q_68.1, q_68.2.1, q_68.2.2.1, q_68.2.2.2.1, q_68.2.2.2.2), rfl, by rw [cF_ShortForm_readSecond, if_pos c_17_0, ← e_68, cF_ShortForm_readSecond_1], by rw [ht]; exact hP, va_K.moved hW.alike hK, hD⟩, hS.F ht⟩) hS.2.2 d_Shor_readSecond_186
  · skip
    by_cases c_17_1 : (j_ushr x0 13) = 1
    · skip
      refine lv_tableIn (tgt := 74) hx hb d_Shor_readSecond_17 (by rw [c_17_1]; decide) (by rw [c_17_1]; decide) (by rw [c_17_1] <;> rfl) (by decide) ?_
      refine lv_aload_n hx hb d_Shor_readSecond_74 rfl (lv_at hl 3 rfl) ?_
      refine lv_iconst (v := 2) hx hb d_Shor_readSecond_75 (by decide) ?_
      refine lv_iconst (v := 1) hx hb d_Shor_readSecond_76 (by decide) ?_
      refine lv_iconst (v := 0) hx hb d_Shor_readSecond_77 (by decide) ?_
      refine lv_iconst (v := 0) hx hb d_Shor_readSecond_78 (by decide) ?_
      refine lv_iload_n hx hb d_Shor_readSecond_79 rfl (lv_at hl 2 rfl) ?_
      refine roSi (As := [.int x0]) (rest := [.int 0, .int 0, .int 1, .int 2, .ref a_w]) ⟨hx, hb, hml, hown, hts⟩ (cc_ShortForm_immediateOfJump l D tc tb z0 x0) (va_cwS 1 hts (goodS a_382 a_383 a_11 a_384) rfl rfl rfl hs_Shor_immediateOfJump ⟨Nat.le_of_ble_eq_true rfl, Nat.le_of_ble_eq_true rfl⟩) (hP.sub [] rfl) hK (hB.kept hS hZ) rfl hl.1 rfl (Nat.le_of_ble_eq_true rfl) d_Shor_readSecond_80 ⟨Nat.zero_le _, Nat.zero_le _⟩ ?_
      obtain ⟨q_83, e_83⟩ : ∃ z, z = (cF_Word_is 2 1 0 0 (cF_ShortForm_immediateOfJump x0)) := ⟨_, rfl⟩
      refine wVv (As := [.int 2, .int 1, .int 0, .int 0, .int (cF_ShortForm_immediateOfJump x0)]) (rest := []) e_83 ⟨hx, hb, hml, hown, hts⟩ (cc_Word_is l D tc tb z0 _ a_w w_n w_k w_d w_a w_b w_i 2 1 0 0 (cF_ShortForm_immediateOfJump x0)) (cwV 5 hts (goodV a_369 a_357 a_358 a_9 a_359) rfl rfl rfl hv_Word_is ⟨Nat.le_of_ble_eq_true rfl, Nat.le_of_ble_eq_true rfl⟩) hP hD hS hA hZ hK hB [0] rfl (by decide) (fun _ => rfl) rfl rfl rfl hl.1 rfl (Nat.le_of_ble_eq_true rfl) d_Shor_readSecond_83 ⟨Nat.zero_le _, Nat.zero_le _⟩ (fun H locs hP hD hS => ?_)
      have hP : va_P D vwCl [(a_w, .inr (4, [.int w_n, .int q_83.1, .int q_83.2.1, .int q_83.2.2.1, .int q_83.2.2.2.1, .int q_83.2.2.2.2]))] H := hP
      have hD : va_D A [(a_w, .inr (4, [.int w_n, .int q_83.1, .int q_83.2.1, .int q_83.2.2.1, .int q_83.2.2.2.1, .int q_83.2.2.2.2]))] := hD
      refine lv_goto (tgt := 186) hx hb d_Shor_readSecond_86 (by decide) ?_
      exact W.vret hx hb hr (fun t ht hW => ⟨⟨(q_83.1, q_83.2.1, q_83.2.2.1, q_83.2.2.2.1, q_83.2.2.2.2), rfl, by rw [cF_ShortForm_readSecond, if_neg c_17_0, if_pos c_17_1, ← e_83, cF_ShortForm_readSecond_2], by rw [ht]; exact hP, va_K.moved hW.alike hK, hD⟩, hS.F ht⟩) hS.2.2 d_Shor_readSecond_186
    · skip
      by_cases c_17_2 : (j_ushr x0 13) = 2
      · skip
        refine lv_tableIn (tgt := 89) hx hb d_Shor_readSecond_17 (by rw [c_17_2]; decide) (by rw [c_17_2]; decide) (by rw [c_17_2] <;> rfl) (by decide) ?_
        refine lv_aload_n hx hb d_Shor_readSecond_89 rfl (lv_at hl 3 rfl) ?_
        refine lv_iload_n hx hb d_Shor_readSecond_90 rfl (lv_at hl 1 rfl) ?_
        refine lv_if_eq (tgt := 99) hx hb d_Shor_readSecond_91 (by decide) (fun c_91 => ?_) (fun c_91 => ?_)
        · skip
          refine lv_iconst (v := (-1)) hx hb d_Shor_readSecond_99 (by decide) ?_
          refine lv_iload_n hx hb d_Shor_readSecond_100 rfl (lv_at hl 1 rfl) ?_
          refine lv_iconst (v := 0) hx hb d_Shor_readSecond_101 (by decide) ?_
          refine lv_iconst (v := 0) hx hb d_Shor_readSecond_102 (by decide) ?_
          refine lv_iload_n hx hb d_Shor_readSecond_103 rfl (lv_at hl 0 rfl) ?_
          obtain ⟨q_104, e_104⟩ : ∃ z, z = (cF_Word_is (-1) ((j_ushr x0 7) &&& 31) 0 0 (cF_ShortForm_sixBits x0)) := ⟨_, rfl⟩
          refine wVv (As := [.int (-1), .int ((j_ushr x0 7) &&& 31), .int 0, .int 0, .int (cF_ShortForm_sixBits x0)]) (rest := []) e_104 ⟨hx, hb, hml, hown, hts⟩ (cc_Word_is l D tc tb z0 _ a_w w_n w_k w_d w_a w_b w_i (-1) ((j_ushr x0 7) &&& 31) 0 0 (cF_ShortForm_sixBits x0)) (cwV 5 hts (goodV a_369 a_357 a_358 a_9 a_359) rfl rfl rfl hv_Word_is ⟨Nat.le_of_ble_eq_true rfl, Nat.le_of_ble_eq_true rfl⟩) hP hD hS hA hZ hK hB [0] rfl (by decide) (fun _ => rfl) rfl rfl rfl hl.1 rfl (Nat.le_of_ble_eq_true rfl) d_Shor_readSecond_104 ⟨Nat.zero_le _, Nat.zero_le _⟩ (fun H locs hP hD hS => ?_)
          have hP : va_P D vwCl [(a_w, .inr (4, [.int w_n, .int q_104.1, .int q_104.2.1, .int q_104.2.2.1, .int q_104.2.2.2.1, .int q_104.2.2.2.2]))] H := hP
          have hD : va_D A [(a_w, .inr (4, [.int w_n, .int q_104.1, .int q_104.2.1, .int q_104.2.2.1, .int q_104.2.2.2.1, .int q_104.2.2.2.2]))] := hD
          refine lv_goto (tgt := 186) hx hb d_Shor_readSecond_107 (by decide) ?_
          exact W.vret hx hb hr (fun t ht hW => ⟨⟨(q_104.1, q_104.2.1, q_104.2.2.1, q_104.2.2.2.1, q_104.2.2.2.2), rfl, by rw [cF_ShortForm_readSecond, if_neg c_17_0, if_neg c_17_1, if_pos c_17_2, if_pos c_91, ← e_104, cF_ShortForm_readSecond_3], by rw [ht]; exact hP, va_K.moved hW.alike hK, hD⟩, hS.F ht⟩) hS.2.2 d_Shor_readSecond_186
        · skip
          refine lv_bipush (v := 18) hx hb d_Shor_readSecond_94 (by decide) ?_
          refine lv_goto (tgt := 100) hx hb d_Shor_readSecond_96 (by decide) ?_
          refine lv_iload_n hx hb d_Shor_readSecond_100 rfl (lv_at hl 1 rfl) ?_
          refine lv_iconst (v := 0) hx hb d_Shor_readSecond_101 (by decide) ?_
          refine lv_iconst (v := 0) hx hb d_Shor_readSecond_102 (by decide) ?_
          refine lv_iload_n hx hb d_Shor_readSecond_103 rfl (lv_at hl 0 rfl) ?_
          obtain ⟨q_104, e_104⟩ : ∃ z, z = (cF_Word_is 18 ((j_ushr x0 7) &&& 31) 0 0 (cF_ShortForm_sixBits x0)) := ⟨_, rfl⟩
          refine wVv (As := [.int 18, .int ((j_ushr x0 7) &&& 31), .int 0, .int 0, .int (cF_ShortForm_sixBits x0)]) (rest := []) e_104 ⟨hx, hb, hml, hown, hts⟩ (cc_Word_is l D tc tb z0 _ a_w w_n w_k w_d w_a w_b w_i 18 ((j_ushr x0 7) &&& 31) 0 0 (cF_ShortForm_sixBits x0)) (cwV 5 hts (goodV a_369 a_357 a_358 a_9 a_359) rfl rfl rfl hv_Word_is ⟨Nat.le_of_ble_eq_true rfl, Nat.le_of_ble_eq_true rfl⟩) hP hD hS hA hZ hK hB [0] rfl (by decide) (fun _ => rfl) rfl rfl rfl hl.1 rfl (Nat.le_of_ble_eq_true rfl) d_Shor_readSecond_104 ⟨Nat.zero_le _, Nat.zero_le _⟩ (fun H locs hP hD hS => ?_)
          have hP : va_P D vwCl [(a_w, .inr (4, [.int w_n, .int q_104.1, .int q_104.2.1, .int q_104.2.2.1, .int q_104.2.2.2.1, .int q_104.2.2.2.2]))] H := hP
          have hD : va_D A [(a_w, .inr (4, [.int w_n, .int q_104.1, .int q_104.2.1, .int q_104.2.2.1, .int q_104.2.2.2.1, .int q_104.2.2.2.2]))] := hD
          refine lv_goto (tgt := 186) hx hb d_Shor_readSecond_107 (by decide) ?_
          exact W.vret hx hb hr (fun t ht hW => ⟨⟨(q_104.1, q_104.2.1, q_104.2.2.1, q_104.2.2.2.1, q_104.2.2.2.2), rfl, by rw [cF_ShortForm_readSecond, if_neg c_17_0, if_neg c_17_1, if_pos c_17_2, if_neg c_91, ← e_104, cF_ShortForm_readSecond_4], by rw [ht]; exact hP, va_K.moved hW.alike hK, hD⟩, hS.F ht⟩) hS.2.2 d_Shor_readSecond_186
      · skip
        by_cases c_17_3 : (j_ushr x0 13) = 3
        · skip
          refine lv_tableIn (tgt := 110) hx hb d_Shor_readSecond_17 (by rw [c_17_3]; decide) (by rw [c_17_3]; decide) (by rw [c_17_3] <;> rfl) (by decide) ?_
          refine lv_iload_n hx hb d_Shor_readSecond_110 rfl (lv_at hl 2 rfl) ?_
          refine lv_iload_n hx hb d_Shor_readSecond_111 rfl (lv_at hl 1 rfl) ?_
          refine lv_iload_n hx hb d_Shor_readSecond_112 rfl (lv_at hl 0 rfl) ?_
          refine lv_aload_n hx hb d_Shor_readSecond_113 rfl (lv_at hl 3 rfl) ?_
          obtain ⟨q_114, e_114⟩ : ∃ z, z = (cF_ShortForm_readUpper w_k w_d w_a w_b w_i x0 ((j_ushr x0 7) &&& 31) (cF_ShortForm_sixBits x0)) := ⟨_, rfl⟩
          refine wSv (As := [.int x0, .int ((j_ushr x0 7) &&& 31), .int (cF_ShortForm_sixBits x0), .ref a_w]) (rest := []) e_114 ⟨hx, hb, hml, hown, hts⟩ (cc_ShortForm_readUpper l D tc tb z0 _ a_w w_n w_k w_d w_a w_b w_i x0 ((j_ushr x0 7) &&& 31) (cF_ShortForm_sixBits x0)) (va_cwS 4 hts (goodS a_385 a_386 a_11 a_387) rfl rfl rfl hs_Shor_readUpper ⟨Nat.le_of_ble_eq_true rfl, Nat.le_of_ble_eq_true rfl⟩) hP hD hS hA hZ hK hB [0] rfl (by decide) (fun _ => rfl) rfl hl.1 rfl (Nat.le_of_ble_eq_true rfl) d_Shor_readSecond_114 ⟨Nat.zero_le _, Nat.zero_le _⟩ (fun H locs hP hD hS => ?_)
          have hP : va_P D vwCl [(a_w, .inr (4, [.int w_n, .int q_114.1, .int q_114.2.1, .int q_114.2.2.1, .int q_114.2.2.2.1, .int q_114.2.2.2.2]))] H := hP
          have hD : va_D A [(a_w, .inr (4, [.int w_n, .int q_114.1, .int q_114.2.1, .int q_114.2.2.1, .int q_114.2.2.2.1, .int q_114.2.2.2.2]))] := hD
          refine lv_goto (tgt := 186) hx hb d_Shor_readSecond_117 (by decide) ?_
          exact W.vret hx hb hr (fun t ht hW => ⟨⟨(q_114.1, q_114.2.1, q_114.2.2.1, q_114.2.2.2.1, q_114.2.2.2.2), rfl, by rw [cF_ShortForm_readSecond, if_neg c_17_0, if_neg c_17_1, if_neg c_17_2, if_pos c_17_3, ← e_114, cF_ShortForm_readSecond_5], by rw [ht]; exact hP, va_K.moved hW.alike hK, hD⟩, hS.F ht⟩) hS.2.2 d_Shor_readSecond_186
        · skip
          by_cases c_17_4 : (j_ushr x0 13) = 4
          · skip
            refine lv_tableIn (tgt := 120) hx hb d_Shor_readSecond_17 (by rw [c_17_4]; decide) (by rw [c_17_4]; decide) (by rw [c_17_4] <;> rfl) (by decide) ?_
            refine lv_iload_n hx hb d_Shor_readSecond_120 rfl (lv_at hl 2 rfl) ?_
            refine lv_iload_n hx hb d_Shor_readSecond_121 rfl (lv_at hl 0 rfl) ?_
            refine lv_aload_n hx hb d_Shor_readSecond_122 rfl (lv_at hl 3 rfl) ?_
            obtain ⟨q_123, e_123⟩ : ∃ z, z = (cF_ShortForm_readNearPair x0 (cF_ShortForm_sixBits x0)) := ⟨_, rfl⟩
            refine wSv (As := [.int x0, .int (cF_ShortForm_sixBits x0), .ref a_w]) (rest := []) e_123 ⟨hx, hb, hml, hown, hts⟩ (cc_ShortForm_readNearPair l D tc tb z0 _ a_w w_n w_k w_d w_a w_b w_i x0 (cF_ShortForm_sixBits x0)) (va_cwS 3 hts (goodS a_389 a_390 a_11 a_391) rfl rfl rfl hs_Shor_readNearPair ⟨Nat.le_of_ble_eq_true rfl, Nat.le_of_ble_eq_true rfl⟩) hP hD hS hA hZ hK hB [0] rfl (by decide) (fun _ => rfl) rfl hl.1 rfl (Nat.le_of_ble_eq_true rfl) d_Shor_readSecond_123 ⟨Nat.zero_le _, Nat.zero_le _⟩ (fun H locs hP hD hS => ?_)
            have hP : va_P D vwCl [(a_w, .inr (4, [.int w_n, .int q_123.1, .int q_123.2.1, .int q_123.2.2.1, .int q_123.2.2.2.1, .int q_123.2.2.2.2]))] H := hP
            have hD : va_D A [(a_w, .inr (4, [.int w_n, .int q_123.1, .int q_123.2.1, .int q_123.2.2.1, .int q_123.2.2.2.1, .int q_123.2.2.2.2]))] := hD
            refine lv_goto (tgt := 186) hx hb d_Shor_readSecond_126 (by decide) ?_
            exact W.vret hx hb hr (fun t ht hW => ⟨⟨(q_123.1, q_123.2.1, q_123.2.2.1, q_123.2.2.2.1, q_123.2.2.2.2), rfl, by rw [cF_ShortForm_readSecond, if_neg c_17_0, if_neg c_17_1, if_neg c_17_2, if_neg c_17_3, if_pos c_17_4, ← e_123, cF_ShortForm_readSecond_6], by rw [ht]; exact hP, va_K.moved hW.alike hK, hD⟩, hS.F ht⟩) hS.2.2 d_Shor_readSecond_186
          · skip
            by_cases c_17_5 : (j_ushr x0 13) = 5
            · skip
              refine lv_tableIn (tgt := 129) hx hb d_Shor_readSecond_17 (by rw [c_17_5]; decide) (by rw [c_17_5]; decide) (by rw [c_17_5] <;> rfl) (by decide) ?_
              refine lv_aload_n hx hb d_Shor_readSecond_129 rfl (lv_at hl 3 rfl) ?_
              refine lv_iconst (v := 2) hx hb d_Shor_readSecond_130 (by decide) ?_
              refine lv_iconst (v := 0) hx hb d_Shor_readSecond_131 (by decide) ?_
              refine lv_iconst (v := 0) hx hb d_Shor_readSecond_132 (by decide) ?_
              refine lv_iconst (v := 0) hx hb d_Shor_readSecond_133 (by decide) ?_
              refine lv_iload_n hx hb d_Shor_readSecond_134 rfl (lv_at hl 2 rfl) ?_
              refine roSi (As := [.int x0]) (rest := [.int 0, .int 0, .int 0, .int 2, .ref a_w]) ⟨hx, hb, hml, hown, hts⟩ (cc_ShortForm_immediateOfJump l D tc tb z0 x0) (va_cwS 1 hts (goodS a_382 a_383 a_11 a_384) rfl rfl rfl hs_Shor_immediateOfJump ⟨Nat.le_of_ble_eq_true rfl, Nat.le_of_ble_eq_true rfl⟩) (hP.sub [] rfl) hK (hB.kept hS hZ) rfl hl.1 rfl (Nat.le_of_ble_eq_true rfl) d_Shor_readSecond_135 ⟨Nat.zero_le _, Nat.zero_le _⟩ ?_
              obtain ⟨q_138, e_138⟩ : ∃ z, z = (cF_Word_is 2 0 0 0 (cF_ShortForm_immediateOfJump x0)) := ⟨_, rfl⟩
              refine wVv (As := [.int 2, .int 0, .int 0, .int 0, .int (cF_ShortForm_immediateOfJump x0)]) (rest := []) e_138 ⟨hx, hb, hml, hown, hts⟩ (cc_Word_is l D tc tb z0 _ a_w w_n w_k w_d w_a w_b w_i 2 0 0 0 (cF_ShortForm_immediateOfJump x0)) (cwV 5 hts (goodV a_369 a_357 a_358 a_9 a_359) rfl rfl rfl hv_Word_is ⟨Nat.le_of_ble_eq_true rfl, Nat.le_of_ble_eq_true rfl⟩) hP hD hS hA hZ hK hB [0] rfl (by decide) (fun _ => rfl) rfl rfl rfl hl.1 rfl (Nat.le_of_ble_eq_true rfl) d_Shor_readSecond_138 ⟨Nat.zero_le _, Nat.zero_le _⟩ (fun H locs hP hD hS => ?_)
              have hP : va_P D vwCl [(a_w, .inr (4, [.int w_n, .int q_138.1, .int q_138.2.1, .int q_138.2.2.1, .int q_138.2.2.2.1, .int q_138.2.2.2.2]))] H := hP
              have hD : va_D A [(a_w, .inr (4, [.int w_n, .int q_138.1, .int q_138.2.1, .int q_138.2.2.1, .int q_138.2.2.2.1, .int q_138.2.2.2.2]))] := hD
              refine lv_goto (tgt := 186) hx hb d_Shor_readSecond_141 (by decide) ?_
              exact W.vret hx hb hr (fun t ht hW => ⟨⟨(q_138.1, q_138.2.1, q_138.2.2.1, q_138.2.2.2.1, q_138.2.2.2.2), rfl, by rw [cF_ShortForm_readSecond, if_neg c_17_0, if_neg c_17_1, if_neg c_17_2, if_neg c_17_3, if_neg c_17_4, if_pos c_17_5, ← e_138, cF_ShortForm_readSecond_7], by rw [ht]; exact hP, va_K.moved hW.alike hK, hD⟩, hS.F ht⟩) hS.2.2 d_Shor_readSecond_186
            · skip
              by_cases c_17_6 : (j_ushr x0 13) = 6
              · skip
                refine lv_tableIn (tgt := 144) hx hb d_Shor_readSecond_17 (by rw [c_17_6]; decide) (by rw [c_17_6]; decide) (by rw [c_17_6] <;> rfl) (by decide) ?_
                refine lv_aload_n hx hb d_Shor_readSecond_144 rfl (lv_at hl 3 rfl) ?_
                refine lv_iconst (v := 4) hx hb d_Shor_readSecond_145 (by decide) ?_
                refine lv_iconst (v := 0) hx hb d_Shor_readSecond_146 (by decide) ?_
                refine lv_bipush (v := 8) hx hb d_Shor_readSecond_147 (by decide) ?_
                refine lv_iload_n hx hb d_Shor_readSecond_149 rfl (lv_at hl 1 rfl) ?_
                refine lv_bipush (v := 7) hx hb d_Shor_readSecond_150 (by decide) ?_
                refine lv_iand hx hb d_Shor_readSecond_152 ?_
                refine lv_iadd hx hb d_Shor_readSecond_153 ?_
                refine lv_iconst (v := 0) hx hb d_Shor_readSecond_154 (by decide) ?_
                refine lv_iload_n hx hb d_Shor_readSecond_155 rfl (lv_at hl 2 rfl) ?_
                refine roSi (As := [.int x0]) (rest := [.int 0, .int (8 + (((j_ushr x0 7) &&& 31) &&& 7)), .int 0, .int 4, .ref a_w]) ⟨hx, hb, hml, hown, hts⟩ (cc_ShortForm_immediateOfBranch l D tc tb z0 x0) (va_cwS 1 hts (goodS a_398 a_399 a_11 a_400) rfl rfl rfl hs_Shor_immediateOfBranch ⟨Nat.le_of_ble_eq_true rfl, Nat.le_of_ble_eq_true rfl⟩) (hP.sub [] rfl) hK (hB.kept hS hZ) rfl hl.1 rfl (Nat.le_of_ble_eq_true rfl) d_Shor_readSecond_156 ⟨Nat.zero_le _, Nat.zero_le _⟩ ?_
                obtain ⟨q_159, e_159⟩ : ∃ z, z = (cF_Word_is 4 0 (8 + (((j_ushr x0 7) &&& 31) &&& 7)) 0 (cF_ShortForm_immediateOfBranch x0)) := ⟨_, rfl⟩
                refine wVv (As := [.int 4, .int 0, .int (8 + (((j_ushr x0 7) &&& 31) &&& 7)), .int 0, .int (cF_ShortForm_immediateOfBranch x0)]) (rest := []) e_159 ⟨hx, hb, hml, hown, hts⟩ (cc_Word_is l D tc tb z0 _ a_w w_n w_k w_d w_a w_b w_i 4 0 (8 + (((j_ushr x0 7) &&& 31) &&& 7)) 0 (cF_ShortForm_immediateOfBranch x0)) (cwV 5 hts (goodV a_369 a_357 a_358 a_9 a_359) rfl rfl rfl hv_Word_is ⟨Nat.le_of_ble_eq_true rfl, Nat.le_of_ble_eq_true rfl⟩) hP hD hS hA hZ hK hB [0] rfl (by decide) (fun _ => rfl) rfl rfl rfl hl.1 rfl (Nat.le_of_ble_eq_true rfl) d_Shor_readSecond_159 ⟨Nat.zero_le _, Nat.zero_le _⟩ (fun H locs hP hD hS => ?_)
                have hP : va_P D vwCl [(a_w, .inr (4, [.int w_n, .int q_159.1, .int q_159.2.1, .int q_159.2.2.1, .int q_159.2.2.2.1, .int q_159.2.2.2.2]))] H := hP
                have hD : va_D A [(a_w, .inr (4, [.int w_n, .int q_159.1, .int q_159.2.1, .int q_159.2.2.1, .int q_159.2.2.2.1, .int q_159.2.2.2.2]))] := hD
                refine lv_goto (tgt := 186) hx hb d_Shor_readSecond_162 (by decide) ?_
                exact W.vret hx hb hr (fun t ht hW => ⟨⟨(q_159.1, q_159.2.1, q_159.2.2.1, q_159.2.2.2.1, q_159.2.2.2.2), rfl, by rw [cF_ShortForm_readSecond, if_neg c_17_0, if_neg c_17_1, if_neg c_17_2, if_neg c_17_3, if_neg c_17_4, if_neg c_17_5, if_pos c_17_6, ← e_159, cF_ShortForm_readSecond_8], by rw [ht]; exact hP, va_K.moved hW.alike hK, hD⟩, hS.F ht⟩) hS.2.2 d_Shor_readSecond_186
              · skip
                by_cases c_17_7 : (j_ushr x0 13) = 7
                · skip
                  refine lv_tableIn (tgt := 165) hx hb d_Shor_readSecond_17 (by rw [c_17_7]; decide) (by rw [c_17_7]; decide) (by rw [c_17_7] <;> rfl) (by decide) ?_
                  refine lv_aload_n hx hb d_Shor_readSecond_165 rfl (lv_at hl 3 rfl) ?_
                  refine lv_iconst (v := 5) hx hb d_Shor_readSecond_166 (by decide) ?_
                  refine lv_iconst (v := 0) hx hb d_Shor_readSecond_167 (by decide) ?_
                  refine lv_bipush (v := 8) hx hb d_Shor_readSecond_168 (by decide) ?_
                  refine lv_iload_n hx hb d_Shor_readSecond_170 rfl (lv_at hl 1 rfl) ?_
                  refine lv_bipush (v := 7) hx hb d_Shor_readSecond_171 (by decide) ?_
                  refine lv_iand hx hb d_Shor_readSecond_173 ?_
                  refine lv_iadd hx hb d_Shor_readSecond_174 ?_
                  refine lv_iconst (v := 0) hx hb d_Shor_readSecond_175 (by decide) ?_
                  refine lv_iload_n hx hb d_Shor_readSecond_176 rfl (lv_at hl 2 rfl) ?_
                  refine roSi (As := [.int x0]) (rest := [.int 0, .int (8 + (((j_ushr x0 7) &&& 31) &&& 7)), .int 0, .int 5, .ref a_w]) ⟨hx, hb, hml, hown, hts⟩ (cc_ShortForm_immediateOfBranch l D tc tb z0 x0) (va_cwS 1 hts (goodS a_398 a_399 a_11 a_400) rfl rfl rfl hs_Shor_immediateOfBranch ⟨Nat.le_of_ble_eq_true rfl, Nat.le_of_ble_eq_true rfl⟩) (hP.sub [] rfl) hK (hB.kept hS hZ) rfl hl.1 rfl (Nat.le_of_ble_eq_true rfl) d_Shor_readSecond_177 ⟨Nat.zero_le _, Nat.zero_le _⟩ ?_
                  obtain ⟨q_180, e_180⟩ : ∃ z, z = (cF_Word_is 5 0 (8 + (((j_ushr x0 7) &&& 31) &&& 7)) 0 (cF_ShortForm_immediateOfBranch x0)) := ⟨_, rfl⟩
                  refine wVv (As := [.int 5, .int 0, .int (8 + (((j_ushr x0 7) &&& 31) &&& 7)), .int 0, .int (cF_ShortForm_immediateOfBranch x0)]) (rest := []) e_180 ⟨hx, hb, hml, hown, hts⟩ (cc_Word_is l D tc tb z0 _ a_w w_n w_k w_d w_a w_b w_i 5 0 (8 + (((j_ushr x0 7) &&& 31) &&& 7)) 0 (cF_ShortForm_immediateOfBranch x0)) (cwV 5 hts (goodV a_369 a_357 a_358 a_9 a_359) rfl rfl rfl hv_Word_is ⟨Nat.le_of_ble_eq_true rfl, Nat.le_of_ble_eq_true rfl⟩) hP hD hS hA hZ hK hB [0] rfl (by decide) (fun _ => rfl) rfl rfl rfl hl.1 rfl (Nat.le_of_ble_eq_true rfl) d_Shor_readSecond_180 ⟨Nat.zero_le _, Nat.zero_le _⟩ (fun H locs hP hD hS => ?_)
                  have hP : va_P D vwCl [(a_w, .inr (4, [.int w_n, .int q_180.1, .int q_180.2.1, .int q_180.2.2.1, .int q_180.2.2.2.1, .int q_180.2.2.2.2]))] H := hP
                  have hD : va_D A [(a_w, .inr (4, [.int w_n, .int q_180.1, .int q_180.2.1, .int q_180.2.2.1, .int q_180.2.2.2.1, .int q_180.2.2.2.2]))] := hD
                  refine lv_goto (tgt := 186) hx hb d_Shor_readSecond_183 (by decide) ?_
                  exact W.vret hx hb hr (fun t ht hW => ⟨⟨(q_180.1, q_180.2.1, q_180.2.2.1, q_180.2.2.2.1, q_180.2.2.2.2), rfl, by rw [cF_ShortForm_readSecond, if_neg c_17_0, if_neg c_17_1, if_neg c_17_2, if_neg c_17_3, if_neg c_17_4, if_neg c_17_5, if_neg c_17_6, if_pos c_17_7, ← e_180, cF_ShortForm_readSecond_9], by rw [ht]; exact hP, va_K.moved hW.alike hK, hD⟩, hS.F ht⟩) hS.2.2 d_Shor_readSecond_186
                · skip
                  refine lv_tableOut (tgt := 186) hx hb d_Shor_readSecond_17 (by have n_0 := lv_neT (a := 0) c_17_0 (by decide); have n_1 := lv_neT (a := 1) c_17_1 (by decide); have n_2 := lv_neT (a := 2) c_17_2 (by decide); have n_3 := lv_neT (a := 3) c_17_3 (by decide); have n_4 := lv_neT (a := 4) c_17_4 (by decide); have n_5 := lv_neT (a := 5) c_17_5 (by decide); have n_6 := lv_neT (a := 6) c_17_6 (by decide); have n_7 := lv_neT (a := 7) c_17_7 (by decide); omega) (by decide) ?_
                  exact W.vret hx hb hr (fun t ht hW => ⟨⟨(w_k, w_d, w_a, w_b, w_i), rfl, by rw [cF_ShortForm_readSecond, if_neg c_17_0, if_neg c_17_1, if_neg c_17_2, if_neg c_17_3, if_neg c_17_4, if_neg c_17_5, if_neg c_17_6, if_neg c_17_7], by rw [ht]; exact hP, va_K.moved hW.alike hK, hD⟩, hS.F ht⟩) hS.2.2 d_Shor_readSecond_186
def cF_ShortForm_readStackLoad_1  (q_37 : Int32 × Int32 × Int32 × Int32 × Int32) : Int32 × Int32 × Int32 × Int32 × Int32 := (q_37.1, q_37.2.1, q_37.2.2.1, q_37.2.2.2.1, q_37.2.2.2.2)
def cF_ShortForm_readStackLoad (w_k : Int32) (w_d : Int32) (w_a : Int32) (w_b : Int32) (w_i : Int32) (x0 : Int32) (x1 : Int32) : Int32 × Int32 × Int32 × Int32 × Int32 := (if x1 = 0 then (w_k, w_d, w_a, w_b, w_i) else (cF_ShortForm_readStackLoad_1 (cF_Word_is 12 x1 2 0 (((cF_Word_part x0 12 1 5) ||| (cF_Word_part x0 4 3 2)) ||| (cF_Word_part x0 2 2 6)))))
set_option maxHeartbeats 4000000 in
set_option maxRecDepth 100000 in
theorem cc_ShortForm_readStackLoad (l : Launch) (D : va_G) (tc : Nat → ClassId) (tb : Nat → Nat) (z0 : Nat) (sz : Nat) (a_w : Nat) (w_n : Int32) (w_k : Int32) (w_d : Int32) (w_a : Int32) (w_b : Int32) (w_i : Int32) (x0 : Int32) (x1 : Int32) : Met l y_Shor_readStackLoad (wM y_Shor_readStackLoad b_Shor_readStackLoad 4 none) ({ frames := 1, cells := 0, slots := 0, locals := 25 }) (va_Pc [.int x0, .int x1, .ref a_w] (Pw D tc tb z0 [(a_w, .inr (4, [.int w_n, .int w_k, .int w_d, .int w_a, .int w_b, .int w_i]))] sz)) (va_Qv (fun u : Int32 × Int32 × Int32 × Int32 × Int32 => u = (cF_ShortForm_readStackLoad w_k w_d w_a w_b w_i x0 x1)) (Bw D tc (va_A [(a_w, .inr (4, [.int w_n, .int w_k, .int w_d, .int w_a, .int w_b, .int w_i]))] sz) (fun u => [(a_w, .inr (4, [.int w_n, .int u.1, .int u.2.1, .int u.2.2.1, .int u.2.2.2.1, .int u.2.2.2.2]))])) (va_A [(a_w, .inr (4, [.int w_n, .int w_k, .int w_d, .int w_a, .int w_b, .int w_i]))] sz)) 0 0 (va_A [(a_w, .inr (4, [.int w_n, .int w_k, .int w_d, .int w_a, .int w_b, .int w_i]))] sz) := by
  refine Met.ofW (cc := b_Shor_readStackLoad) (maxL := 4) (ret := none) (by decide) rfl ?_
  intro p e s m args below meth c s₁ B hml hv
  obtain ⟨rfl, hsz, hP, hK, hB, hD0, hZ0⟩ := hv
  have hx := B.exec
  have hb := B.bytes
  have hr := B.returns
  have hts : ∀ w ∈ wALL, w.before _ s = true := fun w h => atoms_spec (ws := (wM y_Shor_readStackLoad b_Shor_readStackLoad 4 none)) B.pre w (List.mem_cons_of_mem _ h)
  have hown : s.vm.findClass "StepMachine$ShortForm" = some m.cls := findClass_of_methodNamed B.named
  have hlocks := B.notSynchronized
  subst hsz
  have hD := hD0.self (sz := s.heap.size)
  generalize hAe : va_A [(a_w, .inr (4, [.int w_n, .int w_k, .int w_d, .int w_a, .int w_b, .int w_i]))] s.heap.size = A at hD ⊢
  have hZ : ∀ q : Nat, A q → z0 ≤ q := by rw [← hAe]; exact hZ0
  have hA : ∀ q : Nat, s.heap.size ≤ q → A q := fun q h => by rw [← hAe]; exact Or.inr h
  have hS : va_S A s.heap s.heap [] := va_S.rf
  have hl := lv_entry ([.int x0, .int x1, .ref a_w]) (n := 4) (Nat.le_of_ble_eq_true rfl)
  rw [lg_entry_eq]
  generalize (lg_sl ([.int x0, .int x1, .ref a_w]) ++ List.replicate (4 - (lg_sl ([.int x0, .int x1, .ref a_w])).length) Slot.unset).toArray = ls at hl ⊢
  have hl : lv_has ls 4 [(0, .int x0), (1, .int x1), (2, .ref a_w)] := hl
  refine lv_iload_n hx hb d_Shor_readStackLoad_0 rfl (lv_at hl 1 rfl) ?_
  refine lv_if_eq (tgt := 40) hx hb d_Shor_readStackLoad_1 (by decide) (fun c_1 => ?_) (fun c_1 => ?_)
  · skip
    exact W.vret hx hb hr (fun t ht hW => ⟨⟨(w_k, w_d, w_a, w_b, w_i), rfl, by rw [cF_ShortForm_readStackLoad, if_pos c_1], by rw [ht]; exact hP, va_K.moved hW.alike hK, hD⟩, hS.F ht⟩) hS.2.2 d_Shor_readStackLoad_40
  · skip
    refine lv_iload_n hx hb d_Shor_readStackLoad_4 rfl (lv_at hl 0 rfl) ?_
    refine lv_bipush (v := 12) hx hb d_Shor_readStackLoad_5 (by decide) ?_
    refine lv_iconst (v := 1) hx hb d_Shor_readStackLoad_7 (by decide) ?_
    refine lv_iconst (v := 5) hx hb d_Shor_readStackLoad_8 (by decide) ?_
    refine roSi (As := [.int x0, .int 12, .int 1, .int 5]) (rest := []) ⟨hx, hb, hml, hown, hts⟩ (cc_Word_part l D tc tb z0 x0 12 1 5) (va_cwS 4 hts (goodS a_363 a_364 a_9 a_365) rfl rfl rfl hs_Word_part ⟨Nat.le_of_ble_eq_true rfl, Nat.le_of_ble_eq_true rfl⟩) (hP.sub [] rfl) hK (hB.kept hS hZ) rfl hl.1 rfl (Nat.le_of_ble_eq_true rfl) d_Shor_readStackLoad_9 ⟨Nat.zero_le _, Nat.zero_le _⟩ ?_
    refine lv_iload_n hx hb d_Shor_readStackLoad_12 rfl (lv_at hl 0 rfl) ?_
    refine lv_iconst (v := 4) hx hb d_Shor_readStackLoad_13 (by decide) ?_
    refine lv_iconst (v := 3) hx hb d_Shor_readStackLoad_14 (by decide) ?_
    refine lv_iconst (v := 2) hx hb d_Shor_readStackLoad_15 (by decide) ?_
    refine roSi (As := [.int x0, .int 4, .int 3, .int 2]) (rest := [.int (cF_Word_part x0 12 1 5)]) ⟨hx, hb, hml, hown, hts⟩ (cc_Word_part l D tc tb z0 x0 4 3 2) (va_cwS 4 hts (goodS a_363 a_364 a_9 a_365) rfl rfl rfl hs_Word_part ⟨Nat.le_of_ble_eq_true rfl, Nat.le_of_ble_eq_true rfl⟩) (hP.sub [] rfl) hK (hB.kept hS hZ) rfl hl.1 rfl (Nat.le_of_ble_eq_true rfl) d_Shor_readStackLoad_16 ⟨Nat.zero_le _, Nat.zero_le _⟩ ?_
    refine lv_ior hx hb d_Shor_readStackLoad_19 ?_
    refine lv_iload_n hx hb d_Shor_readStackLoad_20 rfl (lv_at hl 0 rfl) ?_
    refine lv_iconst (v := 2) hx hb d_Shor_readStackLoad_21 (by decide) ?_
    refine lv_iconst (v := 2) hx hb d_Shor_readStackLoad_22 (by decide) ?_
    refine lv_bipush (v := 6) hx hb d_Shor_readStackLoad_23 (by decide) ?_
    refine roSi (As := [.int x0, .int 2, .int 2, .int 6]) (rest := [.int ((cF_Word_part x0 12 1 5) ||| (cF_Word_part x0 4 3 2))]) ⟨hx, hb, hml, hown, hts⟩ (cc_Word_part l D tc tb z0 x0 2 2 6) (va_cwS 4 hts (goodS a_363 a_364 a_9 a_365) rfl rfl rfl hs_Word_part ⟨Nat.le_of_ble_eq_true rfl, Nat.le_of_ble_eq_true rfl⟩) (hP.sub [] rfl) hK (hB.kept hS hZ) rfl hl.1 rfl (Nat.le_of_ble_eq_true rfl) d_Shor_readStackLoad_25 ⟨Nat.zero_le _, Nat.zero_le _⟩ ?_
    refine lv_ior hx hb d_Shor_readStackLoad_28 ?_
    refine lv_istore_n (lv' := [(3, .int (((cF_Word_part x0 12 1 5) ||| (cF_Word_part x0 4 3 2)) ||| (cF_Word_part x0 2 2 6))), (0, .int x0), (1, .int x1), (2, .ref a_w)]) hx hb d_Shor_readStackLoad_29 rfl hl (by decide) rfl (fun ls hl => ?_)
    refine lv_aload_n hx hb d_Shor_readStackLoad_30 rfl (lv_at hl 3 rfl) ?_
    refine lv_bipush (v := 12) hx hb d_Shor_readStackLoad_31 (by decide) ?_
    refine lv_iload_n hx hb d_Shor_readStackLoad_33 rfl (lv_at hl 2 rfl) ?_
    refine lv_iconst (v := 2) hx hb d_Shor_readStackLoad_34 (by decide) ?_
    refine lv_iconst (v := 0) hx hb d_Shor_readStackLoad_35 (by decide) ?_
    refine lv_iload_n hx hb d_Shor_readStackLoad_36 rfl (lv_at hl 0 rfl) ?_
    obtain ⟨q_37, e_37⟩ : ∃ z, z = (cF_Word_is 12 x1 2 0 (((cF_Word_part x0 12 1 5) ||| (cF_Word_part x0 4 3 2)) ||| (cF_Word_part x0 2 2 6))) := ⟨_, rfl⟩
    refine wVv (As := [.int 12, .int x1, .int 2, .int 0, .int (((cF_Word_part x0 12 1 5) ||| (cF_Word_part x0 4 3 2)) ||| (cF_Word_part x0 2 2 6))]) (rest := []) e_37 ⟨hx, hb, hml, hown, hts⟩ (cc_Word_is l D tc tb z0 _ a_w w_n w_k w_d w_a w_b w_i 12 x1 2 0 (((cF_Word_part x0 12 1 5) ||| (cF_Word_part x0 4 3 2)) ||| (cF_Word_part x0 2 2 6))) (cwV 5 hts (goodV a_369 a_357 a_358 a_9 a_359) rfl rfl rfl hv_Word_is ⟨Nat.le_of_ble_eq_true rfl, Nat.le_of_ble_eq_true rfl⟩) hP hD hS hA hZ hK hB [0] rfl (by decide) (fun _ => rfl) rfl rfl rfl hl.1 rfl (Nat.le_of_ble_eq_true rfl) d_Shor_readStackLoad_37 ⟨Nat.zero_le _, Nat.zero_le _⟩ (fun H locs hP hD hS => ?_)
    have hP : va_P D vwCl [(a_w, .inr (4, [.int w_n, .int q_37.1, .int q_37.2.1, .int q_37.2.2.1, .int q_37.2.2.2.1, .int q_37.2.2.2.2]))] H := hP
    have hD : va_D A [(a_w, .inr (4, [.int w_n, .int q_37.1, .int q_37.2.1, .int q_37.2.2.1, .int q_37.2.2.2.1, .int q_37.2.2.2.2]))] := hD
    exact W.vret hx hb hr (fun t ht hW => ⟨⟨(q_37.1, q_37.2.1, q_37.2.2.1, q_37.2.2.2.1, q_37.2.2.2.2), rfl, by rw [cF_ShortForm_readStackLoad, if_neg c_1, ← e_37, cF_ShortForm_readStackLoad_1], by rw [ht]; exact hP, va_K.moved hW.alike hK, hD⟩, hS.F ht⟩) hS.2.2 d_Shor_readStackLoad_40
def cF_ShortForm_readPair_3  (q_29 : Int32 × Int32 × Int32 × Int32 × Int32) : Int32 × Int32 × Int32 × Int32 × Int32 := (q_29.1, q_29.2.1, q_29.2.2.1, q_29.2.2.2.1, q_29.2.2.2.2)
def cF_ShortForm_readPair_2  (q_58 : Int32 × Int32 × Int32 × Int32 × Int32) : Int32 × Int32 × Int32 × Int32 × Int32 := (q_58.1, q_58.2.1, q_58.2.2.1, q_58.2.2.2.1, q_58.2.2.2.2)
def cF_ShortForm_readPair_1  (q_84 : Int32 × Int32 × Int32 × Int32 × Int32) : Int32 × Int32 × Int32 × Int32 × Int32 := (q_84.1, q_84.2.1, q_84.2.2.1, q_84.2.2.2.1, q_84.2.2.2.2)
def cF_ShortForm_readPair_6  (q_29 : Int32 × Int32 × Int32 × Int32 × Int32) : Int32 × Int32 × Int32 × Int32 × Int32 := (q_29.1, q_29.2.1, q_29.2.2.1, q_29.2.2.2.1, q_29.2.2.2.2)
def cF_ShortForm_readPair_5  (q_58 : Int32 × Int32 × Int32 × Int32 × Int32) : Int32 × Int32 × Int32 × Int32 × Int32 := (q_58.1, q_58.2.1, q_58.2.2.1, q_58.2.2.2.1, q_58.2.2.2.2)
def cF_ShortForm_readPair_4  (q_84 : Int32 × Int32 × Int32 × Int32 × Int32) : Int32 × Int32 × Int32 × Int32 × Int32 := (q_84.1, q_84.2.1, q_84.2.2.1, q_84.2.2.2.1, q_84.2.2.2.2)
def cF_ShortForm_readPair (w_k : Int32) (w_d : Int32) (w_a : Int32) (w_b : Int32) (w_i : Int32) (x0 : Int32) (x1 : Int32) (x2 : Int32) : Int32 × Int32 × Int32 × Int32 × Int32 := (if ((j_ushr x0 12) &&& 1) = 0 then (if x0 = 36866 then (cF_ShortForm_readPair_3 (cF_Word_is 47 0 0 0 0)) else (if x1 = 0 then (w_k, w_d, w_a, w_b, w_i) else (if x2 = 0 then (cF_ShortForm_readPair_2 (cF_Word_is 3 0 x1 0 0)) else (cF_ShortForm_readPair_1 (cF_Word_is 27 x1 0 x2 0))))) else (if x0 = 36866 then (cF_ShortForm_readPair_6 (cF_Word_is 47 0 0 0 0)) else (if x1 = 0 then (w_k, w_d, w_a, w_b, w_i) else (if x2 = 0 then (cF_ShortForm_readPair_5 (cF_Word_is 3 1 x1 0 0)) else (cF_ShortForm_readPair_4 (cF_Word_is 27 x1 x1 x2 0))))))
set_option maxHeartbeats 4000000 in
set_option maxRecDepth 100000 in
theorem cc_ShortForm_readPair (l : Launch) (D : va_G) (tc : Nat → ClassId) (tb : Nat → Nat) (z0 : Nat) (sz : Nat) (a_w : Nat) (w_n : Int32) (w_k : Int32) (w_d : Int32) (w_a : Int32) (w_b : Int32) (w_i : Int32) (x0 : Int32) (x1 : Int32) (x2 : Int32) : Met l y_Shor_readPair (wM y_Shor_readPair b_Shor_readPair 5 none) ({ frames := 1, cells := 0, slots := 0, locals := 25 }) (va_Pc [.int x0, .int x1, .int x2, .ref a_w] (Pw D tc tb z0 [(a_w, .inr (4, [.int w_n, .int w_k, .int w_d, .int w_a, .int w_b, .int w_i]))] sz)) (va_Qv (fun u : Int32 × Int32 × Int32 × Int32 × Int32 => u = (cF_ShortForm_readPair w_k w_d w_a w_b w_i x0 x1 x2)) (Bw D tc (va_A [(a_w, .inr (4, [.int w_n, .int w_k, .int w_d, .int w_a, .int w_b, .int w_i]))] sz) (fun u => [(a_w, .inr (4, [.int w_n, .int u.1, .int u.2.1, .int u.2.2.1, .int u.2.2.2.1, .int u.2.2.2.2]))])) (va_A [(a_w, .inr (4, [.int w_n, .int w_k, .int w_d, .int w_a, .int w_b, .int w_i]))] sz)) 0 0 (va_A [(a_w, .inr (4, [.int w_n, .int w_k, .int w_d, .int w_a, .int w_b, .int w_i]))] sz) := by
  refine Met.ofW (cc := b_Shor_readPair) (maxL := 5) (ret := none) (by decide) rfl ?_
  intro p e s m args below meth c s₁ B hml hv
  obtain ⟨rfl, hsz, hP, hK, hB, hD0, hZ0⟩ := hv
  have hx := B.exec
  have hb := B.bytes
  have hr := B.returns
  have hts : ∀ w ∈ wALL, w.before _ s = true := fun w h => atoms_spec (ws := (wM y_Shor_readPair b_Shor_readPair 5 none)) B.pre w (List.mem_cons_of_mem _ h)
  have hown : s.vm.findClass "StepMachine$ShortForm" = some m.cls := findClass_of_methodNamed B.named
  have hlocks := B.notSynchronized
  subst hsz
  have hD := hD0.self (sz := s.heap.size)
  generalize hAe : va_A [(a_w, .inr (4, [.int w_n, .int w_k, .int w_d, .int w_a, .int w_b, .int w_i]))] s.heap.size = A at hD ⊢
  have hZ : ∀ q : Nat, A q → z0 ≤ q := by rw [← hAe]; exact hZ0
  have hA : ∀ q : Nat, s.heap.size ≤ q → A q := fun q h => by rw [← hAe]; exact Or.inr h
  have hS : va_S A s.heap s.heap [] := va_S.rf
  have hl := lv_entry ([.int x0, .int x1, .int x2, .ref a_w]) (n := 5) (Nat.le_of_ble_eq_true rfl)
  rw [lg_entry_eq]
  generalize (lg_sl ([.int x0, .int x1, .int x2, .ref a_w]) ++ List.replicate (5 - (lg_sl ([.int x0, .int x1, .int x2, .ref a_w])).length) Slot.unset).toArray = ls at hl ⊢
  have hl : lv_has ls 5 [(0, .int x0), (1, .int x1), (2, .int x2), (3, .ref a_w)] := hl
  refine lv_iload_n hx hb d_Shor_readPair_0 rfl (lv_at hl 0 rfl) ?_
  refine lv_bipush (v := 12) hx hb d_Shor_readPair_1 (by decide) ?_
  refine lv_iushr (v := (j_ushr x0 12)) hx hb d_Shor_readPair_3 rfl ?_
  refine lv_iconst (v := 1) hx hb d_Shor_readPair_4 (by decide) ?_
  refine lv_iand hx hb d_Shor_readPair_5 ?_
  refine lv_if_eq (tgt := 13) hx hb d_Shor_readPair_6 (by decide) (fun c_6 => ?_) (fun c_6 => ?_)
  · skip
    refine lv_iconst (v := 0) hx hb d_Shor_readPair_13 (by decide) ?_
    refine lv_istore (lv' := [(4, .int 0), (0, .int x0), (1, .int x1), (2, .int x2), (3, .ref a_w)]) hx hb d_Shor_readPair_14 hl (by decide) rfl (fun ls hl => ?_)
    refine lv_iload_n hx hb d_Shor_readPair_16 rfl (lv_at hl 1 rfl) ?_
    refine lv_ldc (v := 36866) hx hb hown (hts _ a_413) d_Shor_readPair_17 ?_
    refine lv_icmp_ne (tgt := 35) hx hb d_Shor_readPair_19 (by decide) (fun c_19 => ?_) (fun c_19 => ?_)
    · skip
      refine lv_iload_n hx hb d_Shor_readPair_35 rfl (lv_at hl 2 rfl) ?_
      refine lv_if_eq (tgt := 64) hx hb d_Shor_readPair_36 (by decide) (fun c_36 => ?_) (fun c_36 => ?_)
      · skip
        refine lv_iload_n hx hb d_Shor_readPair_64 rfl (lv_at hl 2 rfl) ?_
        refine lv_if_eq (tgt := 87) hx hb d_Shor_readPair_65 (by decide) (fun c_65 => ?_) (fun c_65 => absurd c_36 c_65)
        exact W.vret hx hb hr (fun t ht hW => ⟨⟨(w_k, w_d, w_a, w_b, w_i), rfl, by rw [cF_ShortForm_readPair, if_pos c_6, if_neg c_19, if_pos c_36], by rw [ht]; exact hP, va_K.moved hW.alike hK, hD⟩, hS.F ht⟩) hS.2.2 d_Shor_readPair_87
      · skip
        refine lv_iload_n hx hb d_Shor_readPair_39 rfl (lv_at hl 3 rfl) ?_
        refine lv_if_ne (tgt := 64) hx hb d_Shor_readPair_40 (by decide) (fun c_40 => ?_) (fun c_40 => ?_)
        · skip
          refine lv_iload_n hx hb d_Shor_readPair_64 rfl (lv_at hl 2 rfl) ?_
          refine lv_if_eq (tgt := 87) hx hb d_Shor_readPair_65 (by decide) (fun c_65 => absurd c_65 c_36) (fun c_65 => ?_)
          refine lv_aload_n hx hb d_Shor_readPair_68 rfl (lv_at hl 4 rfl) ?_
          refine lv_bipush (v := 27) hx hb d_Shor_readPair_69 (by decide) ?_
          refine lv_iload_n hx hb d_Shor_readPair_71 rfl (lv_at hl 2 rfl) ?_
          refine lv_iload hx hb d_Shor_readPair_72 (lv_at hl 0 rfl) ?_
          refine lv_if_eq (tgt := 81) hx hb d_Shor_readPair_74 (by decide) (fun c_74 => ?_) (fun c_74 => absurd c_74 (by decide))
          refine lv_iconst (v := 0) hx hb d_Shor_readPair_81 (by decide) ?_
          refine lv_iload_n hx hb d_Shor_readPair_82 rfl (lv_at hl 3 rfl) ?_
          refine lv_iconst (v := 0) hx hb d_Shor_readPair_83 (by decide) ?_
          obtain ⟨q_84, e_84⟩ : ∃ z, z = (cF_Word_is 27 x1 0 x2 0) := ⟨_, rfl⟩
          refine wVv (As := [.int 27, .int x1, .int 0, .int x2, .int 0]) (rest := []) e_84 ⟨hx, hb, hml, hown, hts⟩ (cc_Word_is l D tc tb z0 _ a_w w_n w_k w_d w_a w_b w_i 27 x1 0 x2 0) (cwV 5 hts (goodV a_369 a_357 a_358 a_9 a_359) rfl rfl rfl hv_Word_is ⟨Nat.le_of_ble_eq_true rfl, Nat.le_of_ble_eq_true rfl⟩) hP hD hS hA hZ hK hB [0] rfl (by decide) (fun _ => rfl) rfl rfl rfl hl.1 rfl (Nat.le_of_ble_eq_true rfl) d_Shor_readPair_84 ⟨Nat.zero_le _, Nat.zero_le _⟩ (fun H locs hP hD hS => ?_)
          have hP : va_P D vwCl [(a_w, .inr (4, [.int w_n, .int q_84.1, .int q_84.2.1, .int q_84.2.2.1, .int q_84.2.2.2.1, .int q_84.2.2.2.2]))] H := hP
          have hD : va_D A [(a_w, .inr (4, [.int w_n, .int q_84.1, .int q_84.2.1, .int q_84.2.2.1, .int q_84.2.2.2.1, .int q_84.2.2.2.2]))] := hD
          exact W.vret hx hb hr (fun t ht hW => ⟨⟨(q_84.1, q_84.2.1, q_84.2.2.1, q_84.2.2.2.1, q_84.2.2.2.2), rfl, by rw [cF_ShortForm_readPair, if_pos c_6, if_neg c_19, if_neg c_36, if_neg c_40, ← e_84, cF_ShortForm_readPair_1], by rw [ht]; exact hP, va_K.moved hW.alike hK, hD⟩, hS.F ht⟩) hS.2.2 d_Shor_readPair_87
        · skip
          refine lv_aload_n hx hb d_Shor_readPair_43 rfl (lv_at hl 4 rfl) ?_
          refine lv_iconst (v := 3) hx hb d_Shor_readPair_44 (by decide) ?_
          refine lv_iload hx hb d_Shor_readPair_45 (lv_at hl 0 rfl) ?_
          refine lv_if_eq (tgt := 54) hx hb d_Shor_readPair_47 (by decide) (fun c_47 => ?_) (fun c_47 => absurd c_47 (by decide))
          refine lv_iconst (v := 0) hx hb d_Shor_readPair_54 (by decide) ?_
          refine lv_iload_n hx hb d_Shor_readPair_55 rfl (lv_at hl 2 rfl) ?_
          refine lv_iconst (v := 0) hx hb d_Shor_readPair_56 (by decide) ?_
          refine lv_iconst (v := 0) hx hb d_Shor_readPair_57 (by decide) ?_
          obtain ⟨q_58, e_58⟩ : ∃ z, z = (cF_Word_is 3 0 x1 0 0) := ⟨_, rfl⟩
          refine wVv (As := [.int 3, .int 0, .int x1, .int 0, .int 0]) (rest := []) e_58 ⟨hx, hb, hml, hown, hts⟩ (cc_Word_is l D tc tb z0 _ a_w w_n w_k w_d w_a w_b w_i 3 0 x1 0 0) (cwV 5 hts (goodV a_369 a_357 a_358 a_9 a_359) rfl rfl rfl hv_Word_is ⟨Nat.le_of_ble_eq_true rfl, Nat.le_of_ble_eq_true rfl⟩) hP hD hS hA hZ hK hB [0] rfl (by decide) (fun _ => rfl) rfl rfl rfl hl.1 rfl (Nat.le_of_ble_eq_true rfl) d_Shor_readPair_58 ⟨Nat.zero_le _, Nat.zero_le _⟩ (fun H locs hP hD hS => ?_)
          have hP : va_P D vwCl [(a_w, .inr (4, [.int w_n, .int q_58.1, .int q_58.2.1, .int q_58.2.2.1, .int q_58.2.2.2.1, .int q_58.2.2.2.2]))] H := hP
          have hD : va_D A [(a_w, .inr (4, [.int w_n, .int q_58.1, .int q_58.2.1, .int q_58.2.2.1, .int q_58.2.2.2.1, .int q_58.2.2.2.2]))] := hD
          refine lv_goto (tgt := 87) hx hb d_Shor_readPair_61 (by decide) ?_
          exact W.vret hx hb hr (fun t ht hW => ⟨⟨(q_58.1, q_58.2.1, q_58.2.2.1, q_58.2.2.2.1, q_58.2.2.2.2), rfl, by rw [cF_ShortForm_readPair, if_pos c_6, if_neg c_19, if_neg c_36, if_pos c_40, ← e_58, cF_ShortForm_readPair_2], by rw [ht]; exact hP, va_K.moved hW.alike hK, hD⟩, hS.F ht⟩) hS.2.2 d_Shor_readPair_87
    · skip
      refine lv_aload_n hx hb d_Shor_readPair_22 rfl (lv_at hl 4 rfl) ?_
      refine lv_bipush (v := 47) hx hb d_Shor_readPair_23 (by decide) ?_
      refine lv_iconst (v := 0) hx hb d_Shor_readPair_25 (by decide) ?_
      refine lv_iconst (v := 0) hx hb d_Shor_readPair_26 (by decide) ?_
      refine lv_iconst (v := 0) hx hb d_Shor_readPair_27 (by decide) ?_
      refine lv_iconst (v := 0) hx hb d_Shor_readPair_28 (by decide) ?_
      obtain ⟨q_29, e_29⟩ : ∃ z, z = (cF_Word_is 47 0 0 0 0) := ⟨_, rfl⟩
      refine wVv (As := [.int 47, .int 0, .int 0, .int 0, .int 0]) (rest := []) e_29 ⟨hx, hb, hml, hown, hts⟩ (cc_Word_is l D tc tb z0 _ a_w w_n w_k w_d w_a w_b w_i 47 0 0 0 0) (cwV 5 hts (goodV a_369 a_357 a_358 a_9 a_359) rfl rfl rfl hv_Word_is ⟨Nat.le_of_ble_eq_true rfl, Nat.le_of_ble_eq_true rfl⟩) hP hD hS hA hZ hK hB [0] rfl (by decide) (fun _ => rfl) rfl rfl rfl hl.1 rfl (Nat.le_of_ble_eq_true rfl) d_Shor_readPair_29 ⟨Nat.zero_le _, Nat.zero_le _⟩ (fun H locs hP hD hS => ?_)
      have hP : va_P D vwCl [(a_w, .inr (4, [.int w_n, .int q_29.1, .int q_29.2.1, .int q_29.2.2.1, .int q_29.2.2.2.1, .int q_29.2.2.2.2]))] H := hP
      have hD : va_D A [(a_w, .inr (4, [.int w_n, .int q_29.1, .int q_29.2.1, .int q_29.2.2.1, .int q_29.2.2.2.1, .int q_29.2.2.2.2]))] := hD
      refine lv_goto (tgt := 87) hx hb d_Shor_readPair_32 (by decide) ?_
      exact W.vret hx hb hr (fun t ht hW => ⟨⟨(q_29.1, q_29.2.1, q_29.2.2.1, q_29.2.2.2.1, q_29.2.2.2.2), rfl, by rw [cF_ShortForm_readPair, if_pos c_6, if_pos c_19, ← e_29, cF_ShortForm_readPair_3], by rw [ht]; exact hP, va_K.moved hW.alike hK, hD⟩, hS.F ht⟩) hS.2.2 d_Shor_readPair_87
  · skip
    refine lv_iconst (v := 1) hx hb d_Shor_readPair_9 (by decide) ?_
    refine lv_goto (tgt := 14) hx hb d_Shor_readPair_10 (by decide) ?_
    refine lv_istore (lv' := [(4, .int 1), (0, .int x0), (1, .int x1), (2, .int x2), (3, .ref a_w)]) hx hb d_Shor_readPair_14 hl (by decide) rfl (fun ls hl => ?_)
    refine lv_iload_n hx hb d_Shor_readPair_16 rfl (lv_at hl 1 rfl) ?_
    refine lv_ldc (v := 36866) hx hb hown (hts _ a_413) d_Shor_readPair_17 ?_
    refine lv_icmp_ne (tgt := 35) hx hb d_Shor_readPair_19 (by decide) (fun c_19 => ?_) (fun c_19 => ?_)
    · skip
      refine lv_iload_n hx hb d_Shor_readPair_35 rfl (lv_at hl 2 rfl) ?_
      refine lv_if_eq (tgt := 64) hx hb d_Shor_readPair_36 (by decide) (fun c_36 => ?_) (fun c_36 => ?_)
      · skip
        refine lv_iload_n hx hb d_Shor_readPair_64 rfl (lv_at hl 2 rfl) ?_
        refine lv_if_eq (tgt := 87) hx hb d_Shor_readPair_65 (by decide) (fun c_65 => ?_) (fun c_65 => absurd c_36 c_65)
        exact W.vret hx hb hr (fun t ht hW => ⟨⟨(w_k, w_d, w_a, w_b, w_i), rfl, by rw [cF_ShortForm_readPair, if_neg c_6, if_neg c_19, if_pos c_36], by rw [ht]; exact hP, va_K.moved hW.alike hK, hD⟩, hS.F ht⟩) hS.2.2 d_Shor_readPair_87
      · skip
        refine lv_iload_n hx hb d_Shor_readPair_39 rfl (lv_at hl 3 rfl) ?_
        refine lv_if_ne (tgt := 64) hx hb d_Shor_readPair_40 (by decide) (fun c_40 => ?_) (fun c_40 => ?_)
        · skip
          refine lv_iload_n hx hb d_Shor_readPair_64 rfl (lv_at hl 2 rfl) ?_
          refine lv_if_eq (tgt := 87) hx hb d_Shor_readPair_65 (by decide) (fun c_65 => absurd c_65 c_36) (fun c_65 => ?_)
          refine lv_aload_n hx hb d_Shor_readPair_68 rfl (lv_at hl 4 rfl) ?_
          refine lv_bipush (v := 27) hx hb d_Shor_readPair_69 (by decide) ?_
          refine lv_iload_n hx hb d_Shor_readPair_71 rfl (lv_at hl 2 rfl) ?_
          refine lv_iload hx hb d_Shor_readPair_72 (lv_at hl 0 rfl) ?_
          refine lv_if_eq (tgt := 81) hx hb d_Shor_readPair_74 (by decide) (fun c_74 => absurd c_74 (by decide)) (fun c_74 => ?_)
          refine lv_iload_n hx hb d_Shor_readPair_77 rfl (lv_at hl 2 rfl) ?_
          refine lv_goto (tgt := 82) hx hb d_Shor_readPair_78 (by decide) ?_
          refine lv_iload_n hx hb d_Shor_readPair_82 rfl (lv_at hl 3 rfl) ?_
          refine lv_iconst (v := 0) hx hb d_Shor_readPair_83 (by decide) ?_
          obtain ⟨q_84, e_84⟩ : ∃ z, z = (cF_Word_is 27 x1 x1 x2 0) := ⟨_, rfl⟩
          refine wVv (As := [.int 27, .int x1, .int x1, .int x2, .int 0]) (rest := []) e_84 ⟨hx, hb, hml, hown, hts⟩ (cc_Word_is l D tc tb z0 _ a_w w_n w_k w_d w_a w_b w_i 27 x1 x1 x2 0) (cwV 5 hts (goodV a_369 a_357 a_358 a_9 a_359) rfl rfl rfl hv_Word_is ⟨Nat.le_of_ble_eq_true rfl, Nat.le_of_ble_eq_true rfl⟩) hP hD hS hA hZ hK hB [0] rfl (by decide) (fun _ => rfl) rfl rfl rfl hl.1 rfl (Nat.le_of_ble_eq_true rfl) d_Shor_readPair_84 ⟨Nat.zero_le _, Nat.zero_le _⟩ (fun H locs hP hD hS => ?_)
          have hP : va_P D vwCl [(a_w, .inr (4, [.int w_n, .int q_84.1, .int q_84.2.1, .int q_84.2.2.1, .int q_84.2.2.2.1, .int q_84.2.2.2.2]))] H := hP
          have hD : va_D A [(a_w, .inr (4, [.int w_n, .int q_84.1, .int q_84.2.1, .int q_84.2.2.1, .int q_84.2.2.2.1, .int q_84.2.2.2.2]))] := hD
          exact W.vret hx hb hr (fun t ht hW => ⟨⟨(q_84.1, q_84.2.1, q_84.2.2.1, q_84.2.2.2.1, q_84.2.2.2.2), rfl, by rw [cF_ShortForm_readPair, if_neg c_6, if_neg c_19, if_neg c_36, if_neg c_40, ← e_84, cF_ShortForm_readPair_4], by rw [ht]; exact hP, va_K.moved hW.alike hK, hD⟩, hS.F ht⟩) hS.2.2 d_Shor_readPair_87
        · skip
          refine lv_aload_n hx hb d_Shor_readPair_43 rfl (lv_at hl 4 rfl) ?_
          refine lv_iconst (v := 3) hx hb d_Shor_readPair_44 (by decide) ?_
          refine lv_iload hx hb d_Shor_readPair_45 (lv_at hl 0 rfl) ?_
          refine lv_if_eq (tgt := 54) hx hb d_Shor_readPair_47 (by decide) (fun c_47 => absurd c_47 (by decide)) (fun c_47 => ?_)
          refine lv_iconst (v := 1) hx hb d_Shor_readPair_50 (by decide) ?_
          refine lv_goto (tgt := 55) hx hb d_Shor_readPair_51 (by decide) ?_
          refine lv_iload_n hx hb d_Shor_readPair_55 rfl (lv_at hl 2 rfl) ?_
          refine lv_iconst (v := 0) hx hb d_Shor_readPair_56 (by decide) ?_
          refine lv_iconst (v := 0) hx hb d_Shor_readPair_57 (by decide) ?_
          obtain ⟨q_58, e_58⟩ : ∃ z, z = (cF_Word_is 3 1 x1 0 0) := ⟨_, rfl⟩
          refine wVv (As := [.int 3, .int 1, .int x1, .int 0, .int 0]) (rest := []) e_58 ⟨hx, hb, hml, hown, hts⟩ (cc_Word_is l D tc tb z0 _ a_w w_n w_k w_d w_a w_b w_i 3 1 x1 0 0) (cwV 5 hts (goodV a_369 a_357 a_358 a_9 a_359) rfl rfl rfl hv_Word_is ⟨Nat.le_of_ble_eq_true rfl, Nat.le_of_ble_eq_true rfl⟩) hP hD hS hA hZ hK hB [0] rfl (by decide) (fun _ => rfl) rfl rfl rfl hl.1 rfl (Nat.le_of_ble_eq_true rfl) d_Shor_readPair_58 ⟨Nat.zero_le _, Nat.zero_le _⟩ (fun H locs hP hD hS => ?_)
          have hP : va_P D vwCl [(a_w, .inr (4, [.int w_n, .int q_58.1, .int q_58.2.1, .int q_58.2.2.1, .int q_58.2.2.2.1, .int q_58.2.2.2.2]))] H := hP
          have hD : va_D A [(a_w, .inr (4, [.int w_n, .int q_58.1, .int q_58.2.1, .int q_58.2.2.1, .int q_58.2.2.2.1, .int q_58.2.2.2.2]))] := hD
          refine lv_goto (tgt := 87) hx hb d_Shor_readPair_61 (by decide) ?_
          exact W.vret hx hb hr (fun t ht hW => ⟨⟨(q_58.1, q_58.2.1, q_58.2.2.1, q_58.2.2.2.1, q_58.2.2.2.2), rfl, by rw [cF_ShortForm_readPair, if_neg c_6, if_neg c_19, if_neg c_36, if_pos c_40, ← e_58, cF_ShortForm_readPair_5], by rw [ht]; exact hP, va_K.moved hW.alike hK, hD⟩, hS.F ht⟩) hS.2.2 d_Shor_readPair_87
    · skip
      refine lv_aload_n hx hb d_Shor_readPair_22 rfl (lv_at hl 4 rfl) ?_
      refine lv_bipush (v := 47) hx hb d_Shor_readPair_23 (by decide) ?_
      refine lv_iconst (v := 0) hx hb d_Shor_readPair_25 (by decide) ?_
      refine lv_iconst (v := 0) hx hb d_Shor_readPair_26 (by decide) ?_
      refine lv_iconst (v := 0) hx hb d_Shor_readPair_27 (by decide) ?_
      refine lv_iconst (v := 0) hx hb d_Shor_readPair_28 (by decide) ?_
      obtain ⟨q_29, e_29⟩ : ∃ z, z = (cF_Word_is 47 0 0 0 0) := ⟨_, rfl⟩
      refine wVv (As := [.int 47, .int 0, .int 0, .int 0, .int 0]) (rest := []) e_29 ⟨hx, hb, hml, hown, hts⟩ (cc_Word_is l D tc tb z0 _ a_w w_n w_k w_d w_a w_b w_i 47 0 0 0 0) (cwV 5 hts (goodV a_369 a_357 a_358 a_9 a_359) rfl rfl rfl hv_Word_is ⟨Nat.le_of_ble_eq_true rfl, Nat.le_of_ble_eq_true rfl⟩) hP hD hS hA hZ hK hB [0] rfl (by decide) (fun _ => rfl) rfl rfl rfl hl.1 rfl (Nat.le_of_ble_eq_true rfl) d_Shor_readPair_29 ⟨Nat.zero_le _, Nat.zero_le _⟩ (fun H locs hP hD hS => ?_)
      have hP : va_P D vwCl [(a_w, .inr (4, [.int w_n, .int q_29.1, .int q_29.2.1, .int q_29.2.2.1, .int q_29.2.2.2.1, .int q_29.2.2.2.2]))] H := hP
      have hD : va_D A [(a_w, .inr (4, [.int w_n, .int q_29.1, .int q_29.2.1, .int q_29.2.2.1, .int q_29.2.2.2.1, .int q_29.2.2.2.2]))] := hD
      refine lv_goto (tgt := 87) hx hb d_Shor_readPair_32 (by decide) ?_
      exact W.vret hx hb hr (fun t ht hW => ⟨⟨(q_29.1, q_29.2.1, q_29.2.2.1, q_29.2.2.2.1, q_29.2.2.2.2), rfl, by rw [cF_ShortForm_readPair, if_neg c_6, if_pos c_19, ← e_29, cF_ShortForm_readPair_6], by rw [ht]; exact hP, va_K.moved hW.alike hK, hD⟩, hS.F ht⟩) hS.2.2 d_Shor_readPair_87
def cF_ShortForm_readThird_1  (q_70 : Int32 × Int32 × Int32 × Int32 × Int32) : Int32 × Int32 × Int32 × Int32 × Int32 := (q_70.1, q_70.2.1, q_70.2.2.1, q_70.2.2.2.1, q_70.2.2.2.2)
def cF_ShortForm_readThird_2  (q_79 : Int32 × Int32 × Int32 × Int32 × Int32) : Int32 × Int32 × Int32 × Int32 × Int32 := (q_79.1, q_79.2.1, q_79.2.2.1, q_79.2.2.2.1, q_79.2.2.2.2)
def cF_ShortForm_readThird_3  (q_89 : Int32 × Int32 × Int32 × Int32 × Int32) : Int32 × Int32 × Int32 × Int32 × Int32 := (q_89.1, q_89.2.1, q_89.2.2.1, q_89.2.2.2.1, q_89.2.2.2.2)
def cF_ShortForm_readThird_4  (q_105 : Int32 × Int32 × Int32 × Int32 × Int32) : Int32 × Int32 × Int32 × Int32 × Int32 := (q_105.1, q_105.2.1, q_105.2.2.1, q_105.2.2.2.1, q_105.2.2.2.2)
def cF_ShortForm_readThird (w_k : Int32) (w_d : Int32) (w_a : Int32) (w_b : Int32) (w_i : Int32) (x0 : Int32) : Int32 × Int32 × Int32 × Int32 × Int32 := (if (j_ushr x0 13) = 0 then (cF_ShortForm_readThird_1 (cF_Word_is (cF_ShortForm_shiftUp x0 ((j_ushr x0 7) &&& 31)) ((j_ushr x0 7) &&& 31) ((j_ushr x0 7) &&& 31) 0 ((j_ushr x0 2) &&& 31))) else (if (j_ushr x0 13) = 1 then (w_k, w_d, w_a, w_b, w_i) else (if (j_ushr x0 13) = 2 then (cF_ShortForm_readThird_2 (cF_ShortForm_readStackLoad w_k w_d w_a w_b w_i x0 ((j_ushr x0 7) &&& 31))) else (if (j_ushr x0 13) = 3 then (w_k, w_d, w_a, w_b, w_i) else (if (j_ushr x0 13) = 4 then (cF_ShortForm_readThird_3 (cF_ShortForm_readPair w_k w_d w_a w_b w_i x0 ((j_ushr x0 7) &&& 31) ((j_ushr x0 2) &&& 31))) else (if (j_ushr x0 13) = 5 then (w_k, w_d, w_a, w_b, w_i) else (if (j_ushr x0 13) = 6 then (cF_ShortForm_readThird_4 (cF_Word_is 17 0 2 ((j_ushr x0 2) &&& 31) (cF_ShortForm_immediateOfStackStore x0))) else (w_k, w_d, w_a, w_b, w_i))))))))
set_option maxHeartbeats 4000000 in
set_option maxRecDepth 100000 in
theorem cc_ShortForm_readThird (l : Launch) (D : va_G) (tc : Nat → ClassId) (tb : Nat → Nat) (z0 : Nat) (sz : Nat) (a_w : Nat) (w_n : Int32) (w_k : Int32) (w_d : Int32) (w_a : Int32) (w_b : Int32) (w_i : Int32) (x0 : Int32) : Met l y_Shor_readThird (wM y_Shor_readThird b_Shor_readThird 4 none) ({ frames := 2, cells := 0, slots := 0, locals := 49 }) (va_Pc [.int x0, .ref a_w] (Pw D tc tb z0 [(a_w, .inr (4, [.int w_n, .int w_k, .int w_d, .int w_a, .int w_b, .int w_i]))] sz)) (va_Qv (fun u : Int32 × Int32 × Int32 × Int32 × Int32 => u = (cF_ShortForm_readThird w_k w_d w_a w_b w_i x0)) (Bw D tc (va_A [(a_w, .inr (4, [.int w_n, .int w_k, .int w_d, .int w_a, .int w_b, .int w_i]))] sz) (fun u => [(a_w, .inr (4, [.int w_n, .int u.1, .int u.2.1, .int u.2.2.1, .int u.2.2.2.1, .int u.2.2.2.2]))])) (va_A [(a_w, .inr (4, [.int w_n, .int w_k, .int w_d, .int w_a, .int w_b, .int w_i]))] sz)) 0 0 (va_A [(a_w, .inr (4, [.int w_n, .int w_k, .int w_d, .int w_a, .int w_b, .int w_i]))] sz) := by
  refine Met.ofW (cc := b_Shor_readThird) (maxL := 4) (ret := none) (by decide) rfl ?_
  intro p e s m args below meth c s₁ B hml hv
  obtain ⟨rfl, hsz, hP, hK, hB, hD0, hZ0⟩ := hv
  have hx := B.exec
  have hb := B.bytes
  have hr := B.returns
  have hts : ∀ w ∈ wALL, w.before _ s = true := fun w h => atoms_spec (ws := (wM y_Shor_readThird b_Shor_readThird 4 none)) B.pre w (List.mem_cons_of_mem _ h)
  have hown : s.vm.findClass "StepMachine$ShortForm" = some m.cls := findClass_of_methodNamed B.named
  have hlocks := B.notSynchronized
  subst hsz
  have hD := hD0.self (sz := s.heap.size)
  generalize hAe : va_A [(a_w, .inr (4, [.int w_n, .int w_k, .int w_d, .int w_a, .int w_b, .int w_i]))] s.heap.size = A at hD ⊢
  have hZ : ∀ q : Nat, A q → z0 ≤ q := by rw [← hAe]; exact hZ0
  have hA : ∀ q : Nat, s.heap.size ≤ q → A q := fun q h => by rw [← hAe]; exact Or.inr h
  have hS : va_S A s.heap s.heap [] := va_S.rf
  have hl := lv_entry ([.int x0, .ref a_w]) (n := 4) (Nat.le_of_ble_eq_true rfl)
  rw [lg_entry_eq]
  generalize (lg_sl ([.int x0, .ref a_w]) ++ List.replicate (4 - (lg_sl ([.int x0, .ref a_w])).length) Slot.unset).toArray = ls at hl ⊢
  have hl : lv_has ls 4 [(0, .int x0), (1, .ref a_w)] := hl
  refine lv_iload_n hx hb d_Shor_readThird_0 rfl (lv_at hl 0 rfl) ?_
  refine lv_bipush (v := 7) hx hb d_Shor_readThird_1 (by decide) ?_
  refine lv_iushr (v := (j_ushr x0 7)) hx hb d_Shor_readThird_3 rfl ?_
  refine lv_bipush (v := 31) hx hb d_Shor_readThird_4 (by decide) ?_
  refine lv_iand hx hb d_Shor_readThird_6 ?_
  refine lv_istore_n (lv' := [(2, .int ((j_ushr x0 7) &&& 31)), (0, .int x0), (1, .ref a_w)]) hx hb d_Shor_readThird_7 rfl hl (by decide) rfl (fun ls hl => ?_)
  refine lv_iload_n hx hb d_Shor_readThird_8 rfl (lv_at hl 1 rfl) ?_
  refine lv_iconst (v := 2) hx hb d_Shor_readThird_9 (by decide) ?_
  refine lv_iushr (v := (j_ushr x0 2)) hx hb d_Shor_readThird_10 rfl ?_
  refine lv_bipush (v := 31) hx hb d_Shor_readThird_11 (by decide) ?_
  refine lv_iand hx hb d_Shor_readThird_13 ?_
  refine lv_istore_n (lv' := [(3, .int ((j_ushr x0 2) &&& 31)), (2, .int ((j_ushr x0 7) &&& 31)), (0, .int x0), (1, .ref a_w)]) hx hb d_Shor_readThird_14 rfl hl (by decide) rfl (fun ls hl => ?_)
  refine lv_iload_n hx hb d_Shor_readThird_15 rfl (lv_at hl 2 rfl) ?_
  refine lv_bipush (v := 13) hx hb d_Shor_readThird_16 (by decide) ?_
  refine lv_iushr (v := (j_ushr x0 13)) hx hb d_Shor_readThird_18 rfl ?_
  by_cases c_19_0 : (j_ushr x0 13) = 0
  · skip
    refine lv_tableIn (tgt := 60) hx hb d_Shor_readThird_19 (by rw [c_19_0]; decide) (by rw [c_19_0]; decide) (by rw [c_19_0] <;> rfl) (by decide) ?_
    refine lv_aload_n hx hb d_Shor_readThird_60 rfl (lv_at hl 3 rfl) ?_
    refine lv_iload_n hx hb d_Shor_readThird_61 rfl (lv_at hl 2 rfl) ?_
    refine lv_iload_n hx hb d_Shor_readThird_62 rfl (lv_at hl 1 rfl) ?_
    refine roSi (As := [.int x0, .int ((j_ushr x0 7) &&& 31)]) (rest := [.ref a_w]) ⟨hx, hb, hml, hown, hts⟩ (cc_ShortForm_shiftUp l D tc tb z0 x0 ((j_ushr x0 7) &&& 31)) (va_cwS 2 hts (goodS a_404 a_405 a_11 a_406) rfl rfl rfl hs_Shor_shiftUp ⟨Nat.le_of_ble_eq_true rfl, Nat.le_of_ble_eq_true rfl⟩) (hP.sub [] rfl) hK (hB.kept hS hZ) rfl hl.1 rfl (Nat.le_of_ble_eq_true rfl) d_Shor_readThird_63 ⟨Nat.zero_le _, Nat.zero_le _⟩ ?_
    refine lv_iload_n hx hb d_Shor_readThird_66 rfl (lv_at hl 1 rfl) ?_
    refine lv_iload_n hx hb d_Shor_readThird_67 rfl (lv_at hl 1 rfl) ?_
    refine lv_iconst (v := 0) hx hb d_Shor_readThird_68 (by decide) ?_
    refine lv_iload_n hx hb d_Shor_readThird_69 rfl (lv_at hl 0 rfl) ?_
    obtain ⟨q_70, e_70⟩ : ∃ z, z = (cF_Word_is (cF_ShortForm_shiftUp x0 ((j_ushr x0 7) &&& 31)) ((j_ushr x0 7) &&& 31) ((j_ushr x0 7) &&& 31) 0 ((j_ushr x0 2) &&& 31)) := ⟨_, rfl⟩
    refine wVv (As := [.int (cF_ShortForm_shiftUp x0 ((j_ushr x0 7) &&& 31)), .int ((j_ushr x0 7) &&& 31), .int ((j_ushr x0 7) &&& 31), .int 0, .int ((j_ushr x0 2) &&& 31)]) (rest := []) e_70 ⟨hx, hb, hml, hown, hts⟩ (cc_Word_is l D tc tb z0 _ a_w w_n w_k w_d w_a w_b w_i (cF_ShortForm_shiftUp x0 ((j_ushr x0 7) &&& 31)) ((j_ushr x0 7) &&& 31) ((j_ushr x0 7) &&& 31) 0 ((j_ushr x0 2) &&& 31)) (cwV 5 hts (goodV a_369 a_357 a_358 a_9 a_359) rfl rfl rfl hv_Word_is ⟨Nat.le_of_ble_eq_true rfl, Nat.le_of_ble_eq_true rfl⟩) hP hD hS hA hZ hK hB [0] rfl (by decide) (fun _ => rfl) rfl rfl rfl hl.1 rfl (Nat.le_of_ble_eq_true rfl) d_Shor_readThird_70 ⟨Nat.zero_le _, Nat.zero_le _⟩ (fun H locs hP hD hS => ?_)
    have hP : va_P D vwCl [(a_w, .inr (4, [.int w_n, .int q_70.1, .int q_70.2.1, .int q_70.2.2.1, .int q_70.2.2.2.1, .int q_70.2.2.2.2]))] H := hP
    have hD : va_D A [(a_w, .inr (4, [.int w_n, .int q_70.1, .int q_70.2.1, .int q_70.2.2.1, .int q_70.2.2.2.1, .int q_70.2.2.2.2]))] := hD
    refine lv_goto (tgt := 111) hx hb d_Shor_readThird_73 (by decide) ?_
    exact W.vret hx hb hr (fun t ht hW => ⟨⟨(q_70.1, q_70.2.1, q_70.2.2.1, q_70.2.2.2.1, q_70.2.2.2.2), rfl, by rw [cF_ShortForm_readThird, if_pos c_19_0, ← e_70, cF_ShortForm_readThird_1], by rw [ht]; exact hP, va_K.moved hW.alike hK, hD⟩, hS.F ht⟩) hS.2.2 d_Shor_readThird_111
  · skip
    by_cases c_19_1 : (j_ushr x0 13) = 1
    · skip
      refine lv_tableIn (tgt := 111) hx hb d_Shor_readThird_19 (by rw [c_19_1]; decide) (by rw [c_19_1]; decide) (by rw [c_19_1] <;> rfl) (by decide) ?_
      exact W.vret hx hb hr (fun t ht hW => ⟨⟨(w_k, w_d, w_a, w_b, w_i), rfl, by rw [cF_ShortForm_readThird, if_neg c_19_0, if_pos c_19_1], by rw [ht]; exact hP, va_K.moved hW.alike hK, hD⟩, hS.F ht⟩) hS.2.2 d_Shor_readThird_111
    · skip
      by_cases c_19_2 : (j_ushr x0 13) = 2
      · skip
        refine lv_tableIn (tgt := 76) hx hb d_Shor_readThird_19 (by rw [c_19_2]; decide) (by rw [c_19_2]; decide) (by rw [c_19_2] <;> rfl) (by decide) ?_
        refine lv_iload_n hx hb d_Shor_readThird_76 rfl (lv_at hl 2 rfl) ?_
        refine lv_iload_n hx hb d_Shor_readThird_77 rfl (lv_at hl 1 rfl) ?_
        refine lv_aload_n hx hb d_Shor_readThird_78 rfl (lv_at hl 3 rfl) ?_
        obtain ⟨q_79, e_79⟩ : ∃ z, z = (cF_ShortForm_readStackLoad w_k w_d w_a w_b w_i x0 ((j_ushr x0 7) &&& 31)) := ⟨_, rfl⟩
        refine wSv (As := [.int x0, .int ((j_ushr x0 7) &&& 31), .ref a_w]) (rest := []) e_79 ⟨hx, hb, hml, hown, hts⟩ (cc_ShortForm_readStackLoad l D tc tb z0 _ a_w w_n w_k w_d w_a w_b w_i x0 ((j_ushr x0 7) &&& 31)) (va_cwS 3 hts (goodS a_407 a_408 a_11 a_409) rfl rfl rfl hs_Shor_readStackLoad ⟨Nat.le_of_ble_eq_true rfl, Nat.le_of_ble_eq_true rfl⟩) hP hD hS hA hZ hK hB [0] rfl (by decide) (fun _ => rfl) rfl hl.1 rfl (Nat.le_of_ble_eq_true rfl) d_Shor_readThird_79 ⟨Nat.zero_le _, Nat.zero_le _⟩ (fun H locs hP hD hS => ?_)
        have hP : va_P D vwCl [(a_w, .inr (4, [.int w_n, .int q_79.1, .int q_79.2.1, .int q_79.2.2.1, .int q_79.2.2.2.1, .int q_79.2.2.2.2]))] H := hP
        have hD : va_D A [(a_w, .inr (4, [.int w_n, .int q_79.1, .int q_79.2.1, .int q_79.2.2.1, .int q_79.2.2.2.1, .int q_79.2.2.2.2]))] := hD
        refine lv_goto (tgt := 111) hx hb d_Shor_readThird_82 (by decide) ?_
        exact W.vret hx hb hr (fun t ht hW => ⟨⟨(q_79.1, q_79.2.1, q_79.2.2.1, q_79.2.2.2.1, q_79.2.2.2.2), rfl, by rw [cF_ShortForm_readThird, if_neg c_19_0, if_neg c_19_1, if_pos c_19_2, ← e_79, cF_ShortForm_readThird_2], by rw [ht]; exact hP, va_K.moved hW.alike hK, hD⟩, hS.F ht⟩) hS.2.2 d_Shor_readThird_111
      · skip
        by_cases c_19_3 : (j_ushr x0 13) = 3
        · skip
          refine lv_tableIn (tgt := 111) hx hb d_Shor_readThird_19 (by rw [c_19_3]; decide) (by rw [c_19_3]; decide) (by rw [c_19_3] <;> rfl) (by decide) ?_
          exact W.vret hx hb hr (fun t ht hW => ⟨⟨(w_k, w_d, w_a, w_b, w_i), rfl, by rw [cF_ShortForm_readThird, if_neg c_19_0, if_neg c_19_1, if_neg c_19_2, if_pos c_19_3], by rw [ht]; exact hP, va_K.moved hW.alike hK, hD⟩, hS.F ht⟩) hS.2.2 d_Shor_readThird_111
        · skip
          by_cases c_19_4 : (j_ushr x0 13) = 4
          · skip
            refine lv_tableIn (tgt := 85) hx hb d_Shor_readThird_19 (by rw [c_19_4]; decide) (by rw [c_19_4]; decide) (by rw [c_19_4] <;> rfl) (by decide) ?_
            refine lv_iload_n hx hb d_Shor_readThird_85 rfl (lv_at hl 2 rfl) ?_
            refine lv_iload_n hx hb d_Shor_readThird_86 rfl (lv_at hl 1 rfl) ?_
            refine lv_iload_n hx hb d_Shor_readThird_87 rfl (lv_at hl 0 rfl) ?_
            refine lv_aload_n hx hb d_Shor_readThird_88 rfl (lv_at hl 3 rfl) ?_
            obtain ⟨q_89, e_89⟩ : ∃ z, z = (cF_ShortForm_readPair w_k w_d w_a w_b w_i x0 ((j_ushr x0 7) &&& 31) ((j_ushr x0 2) &&& 31)) := ⟨_, rfl⟩
            refine wSv (As := [.int x0, .int ((j_ushr x0 7) &&& 31), .int ((j_ushr x0 2) &&& 31), .ref a_w]) (rest := []) e_89 ⟨hx, hb, hml, hown, hts⟩ (cc_ShortForm_readPair l D tc tb z0 _ a_w w_n w_k w_d w_a w_b w_i x0 ((j_ushr x0 7) &&& 31) ((j_ushr x0 2) &&& 31)) (va_cwS 4 hts (goodS a_410 a_411 a_11 a_412) rfl rfl rfl hs_Shor_readPair ⟨Nat.le_of_ble_eq_true rfl, Nat.le_of_ble_eq_true rfl⟩) hP hD hS hA hZ hK hB [0] rfl (by decide) (fun _ => rfl) rfl hl.1 rfl (Nat.le_of_ble_eq_true rfl) d_Shor_readThird_89 ⟨Nat.zero_le _, Nat.zero_le _⟩ (fun H locs hP hD hS => ?_)
            have hP : va_P D vwCl [(a_w, .inr (4, [.int w_n, .int q_89.1, .int q_89.2.1, .int q_89.2.2.1, .int q_89.2.2.2.1, .int q_89.2.2.2.2]))] H := hP
            have hD : va_D A [(a_w, .inr (4, [.int w_n, .int q_89.1, .int q_89.2.1, .int q_89.2.2.1, .int q_89.2.2.2.1, .int q_89.2.2.2.2]))] := hD
            refine lv_goto (tgt := 111) hx hb d_Shor_readThird_92 (by decide) ?_
            exact W.vret hx hb hr (fun t ht hW => ⟨⟨(q_89.1, q_89.2.1, q_89.2.2.1, q_89.2.2.2.1, q_89.2.2.2.2), rfl, by rw [cF_ShortForm_readThird, if_neg c_19_0, if_neg c_19_1, if_neg c_19_2, if_neg c_19_3, if_pos c_19_4, ← e_89, cF_ShortForm_readThird_3], by rw [ht]; exact hP, va_K.moved hW.alike hK, hD⟩, hS.F ht⟩) hS.2.2 d_Shor_readThird_111
          · skip
            by_cases c_19_5 : (j_ushr x0 13) = 5
            · skip
              refine lv_tableIn (tgt := 111) hx hb d_Shor_readThird_19 (by rw [c_19_5]; decide) (by rw [c_19_5]; decide) (by rw [c_19_5] <;> rfl) (by decide) ?_
              exact W.vret hx hb hr (fun t ht hW => ⟨⟨(w_k, w_d, w_a, w_b, w_i), rfl, by rw [cF_ShortForm_readThird, if_neg c_19_0, if_neg c_19_1, if_neg c_19_2, if_neg c_19_3, if_neg c_19_4, if_pos c_19_5], by rw [ht]; exact hP, va_K.moved hW.alike hK, hD⟩, hS.F ht⟩) hS.2.2 d_Shor_readThird_111
            · skip
              by_cases c_19_6 : (j_ushr x0 13) = 6
              · skip
                refine lv_tableIn (tgt := 95) hx hb d_Shor_readThird_19 (by rw [c_19_6]; decide) (by rw [c_19_6]; decide) (by rw [c_19_6] <;> rfl) (by decide) ?_
                refine lv_aload_n hx hb d_Shor_readThird_95 rfl (lv_at hl 3 rfl) ?_
                refine lv_bipush (v := 17) hx hb d_Shor_readThird_96 (by decide) ?_
                refine lv_iconst (v := 0) hx hb d_Shor_readThird_98 (by decide) ?_
                refine lv_iconst (v := 2) hx hb d_Shor_readThird_99 (by decide) ?_
                refine lv_iload_n hx hb d_Shor_readThird_100 rfl (lv_at hl 0 rfl) ?_
                refine lv_iload_n hx hb d_Shor_readThird_101 rfl (lv_at hl 2 rfl) ?_
                refine roSi (As := [.int x0]) (rest := [.int ((j_ushr x0 2) &&& 31), .int 2, .int 0, .int 17, .ref a_w]) ⟨hx, hb, hml, hown, hts⟩ (cc_ShortForm_immediateOfStackStore l D tc tb z0 x0) (va_cwS 1 hts (goodS a_414 a_415 a_11 a_416) rfl rfl rfl hs_Shor_immediateOfStackStore ⟨Nat.le_of_ble_eq_true rfl, Nat.le_of_ble_eq_true rfl⟩) (hP.sub [] rfl) hK (hB.kept hS hZ) rfl hl.1 rfl (Nat.le_of_ble_eq_true rfl) d_Shor_readThird_102 ⟨Nat.zero_le _, Nat.zero_le _⟩ ?_
                obtain ⟨q_105, e_105⟩ : ∃ z, z = (cF_Word_is 17 0 2 ((j_ushr x0 2) &&& 31) (cF_ShortForm_immediateOfStackStore x0)) := ⟨_, rfl⟩
                refine wVv (As := [.int 17, .int 0, .int 2, .int ((j_ushr x0 2) &&& 31), .int (cF_ShortForm_immediateOfStackStore x0)]) (rest := []) e_105 ⟨hx, hb, hml, hown, hts⟩ (cc_Word_is l D tc tb z0 _ a_w w_n w_k w_d w_a w_b w_i 17 0 2 ((j_ushr x0 2) &&& 31) (cF_ShortForm_immediateOfStackStore x0)) (cwV 5 hts (goodV a_369 a_357 a_358 a_9 a_359) rfl rfl rfl hv_Word_is ⟨Nat.le_of_ble_eq_true rfl, Nat.le_of_ble_eq_true rfl⟩) hP hD hS hA hZ hK hB [0] rfl (by decide) (fun _ => rfl) rfl rfl rfl hl.1 rfl (Nat.le_of_ble_eq_true rfl) d_Shor_readThird_105 ⟨Nat.zero_le _, Nat.zero_le _⟩ (fun H locs hP hD hS => ?_)
                have hP : va_P D vwCl [(a_w, .inr (4, [.int w_n, .int q_105.1, .int q_105.2.1, .int q_105.2.2.1, .int q_105.2.2.2.1, .int q_105.2.2.2.2]))] H := hP
                have hD : va_D A [(a_w, .inr (4, [.int w_n, .int q_105.1, .int q_105.2.1, .int q_105.2.2.1, .int q_105.2.2.2.1, .int q_105.2.2.2.2]))] := hD
                refine lv_goto (tgt := 111) hx hb d_Shor_readThird_108 (by decide) ?_
                exact W.vret hx hb hr (fun t ht hW => ⟨⟨(q_105.1, q_105.2.1, q_105.2.2.1, q_105.2.2.2.1, q_105.2.2.2.2), rfl, by rw [cF_ShortForm_readThird, if_neg c_19_0, if_neg c_19_1, if_neg c_19_2, if_neg c_19_3, if_neg c_19_4, if_neg c_19_5, if_pos c_19_6, ← e_105, cF_ShortForm_readThird_4], by rw [ht]; exact hP, va_K.moved hW.alike hK, hD⟩, hS.F ht⟩) hS.2.2 d_Shor_readThird_111
              · skip
                refine lv_tableOut (tgt := 111) hx hb d_Shor_readThird_19 (by have n_0 := lv_neT (a := 0) c_19_0 (by decide); have n_1 := lv_neT (a := 1) c_19_1 (by decide); have n_2 := lv_neT (a := 2) c_19_2 (by decide); have n_3 := lv_neT (a := 3) c_19_3 (by decide); have n_4 := lv_neT (a := 4) c_19_4 (by decide); have n_5 := lv_neT (a := 5) c_19_5 (by decide); have n_6 := lv_neT (a := 6) c_19_6 (by decide); omega) (by decide) ?_
                exact W.vret hx hb hr (fun t ht hW => ⟨⟨(w_k, w_d, w_a, w_b, w_i), rfl, by rw [cF_ShortForm_readThird, if_neg c_19_0, if_neg c_19_1, if_neg c_19_2, if_neg c_19_3, if_neg c_19_4, if_neg c_19_5, if_neg c_19_6], by rw [ht]; exact hP, va_K.moved hW.alike hK, hD⟩, hS.F ht⟩) hS.2.2 d_Shor_readThird_111
def cF_ShortForm_read_2 (q_2 : Int32 × Int32 × Int32 × Int32 × Int32 × Int32) (q_38 : Int32 × Int32 × Int32 × Int32 × Int32) : Int32 × Int32 × Int32 × Int32 × Int32 × Int32 := (q_2.1, q_38.1, q_38.2.1, q_38.2.2.1, q_38.2.2.2.1, q_38.2.2.2.2)
def cF_ShortForm_read_3 (q_2 : Int32 × Int32 × Int32 × Int32 × Int32 × Int32) (q_46 : Int32 × Int32 × Int32 × Int32 × Int32) : Int32 × Int32 × Int32 × Int32 × Int32 × Int32 := (q_2.1, q_46.1, q_46.2.1, q_46.2.2.1, q_46.2.2.2.1, q_46.2.2.2.2)
def cF_ShortForm_read_4 (q_2 : Int32 × Int32 × Int32 × Int32 × Int32 × Int32) (q_54 : Int32 × Int32 × Int32 × Int32 × Int32) : Int32 × Int32 × Int32 × Int32 × Int32 × Int32 := (q_2.1, q_54.1, q_54.2.1, q_54.2.2.1, q_54.2.2.2.1, q_54.2.2.2.2)
def cF_ShortForm_read_1 (x0 : Int32) (q_2 : Int32 × Int32 × Int32 × Int32 × Int32 × Int32) : Int32 × Int32 × Int32 × Int32 × Int32 × Int32 := (if (x0 &&& 3) = 0 then (cF_ShortForm_read_2 q_2 (cF_ShortForm_readFirst q_2.2.1 q_2.2.2.1 q_2.2.2.2.1 q_2.2.2.2.2.1 q_2.2.2.2.2.2 x0)) else (if (x0 &&& 3) = 1 then (cF_ShortForm_read_3 q_2 (cF_ShortForm_readSecond q_2.2.1 q_2.2.2.1 q_2.2.2.2.1 q_2.2.2.2.2.1 q_2.2.2.2.2.2 x0)) else (if (x0 &&& 3) = 2 then (cF_ShortForm_read_4 q_2 (cF_ShortForm_readThird q_2.2.1 q_2.2.2.1 q_2.2.2.2.1 q_2.2.2.2.2.1 q_2.2.2.2.2.2 x0)) else (q_2.1, q_2.2.1, q_2.2.2.1, q_2.2.2.2.1, q_2.2.2.2.2.1, q_2.2.2.2.2.2))))
def cF_ShortForm_read (x0 : Int32) : Int32 × Int32 × Int32 × Int32 × Int32 × Int32 := (cF_ShortForm_read_1 x0 (cF_Word_clear 2))
set_option maxHeartbeats 4000000 in
set_option maxRecDepth 100000 in
theorem cc_ShortForm_read (l : Launch) (D : va_G) (tc : Nat → ClassId) (tb : Nat → Nat) (z0 : Nat) (sz : Nat) (a_w : Nat) (w_n : Int32) (w_k : Int32) (w_d : Int32) (w_a : Int32) (w_b : Int32) (w_i : Int32) (x0 : Int32) : Met l y_Shor_read (wM y_Shor_read b_Shor_read 2 none) ({ frames := 3, cells := 0, slots := 0, locals := 72 }) (va_Pc [.int x0, .ref a_w] (Pw D tc tb z0 [(a_w, .inr (4, [.int w_n, .int w_k, .int w_d, .int w_a, .int w_b, .int w_i]))] sz)) (va_Qv (fun u : Int32 × Int32 × Int32 × Int32 × Int32 × Int32 => u = (cF_ShortForm_read x0)) (Bw D tc (va_A [(a_w, .inr (4, [.int w_n, .int w_k, .int w_d, .int w_a, .int w_b, .int w_i]))] sz) (fun u => [(a_w, .inr (4, [.int u.1, .int u.2.1, .int u.2.2.1, .int u.2.2.2.1, .int u.2.2.2.2.1, .int u.2.2.2.2.2]))])) (va_A [(a_w, .inr (4, [.int w_n, .int w_k, .int w_d, .int w_a, .int w_b, .int w_i]))] sz)) 0 0 (va_A [(a_w, .inr (4, [.int w_n, .int w_k, .int w_d, .int w_a, .int w_b, .int w_i]))] sz) := by
  refine Met.ofW (cc := b_Shor_read) (maxL := 2) (ret := none) (by decide) rfl ?_
  intro p e s m args below meth c s₁ B hml hv
  obtain ⟨rfl, hsz, hP, hK, hB, hD0, hZ0⟩ := hv
  have hx := B.exec
  have hb := B.bytes
  have hr := B.returns
  have hts : ∀ w ∈ wALL, w.before _ s = true := fun w h => atoms_spec (ws := (wM y_Shor_read b_Shor_read 2 none)) B.pre w (List.mem_cons_of_mem _ h)
  have hown : s.vm.findClass "StepMachine$ShortForm" = some m.cls := findClass_of_methodNamed B.named
  have hlocks := B.notSynchronized
  subst hsz
  have hD := hD0.self (sz := s.heap.size)
  generalize hAe : va_A [(a_w, .inr (4, [.int w_n, .int w_k, .int w_d, .int w_a, .int w_b, .int w_i]))] s.heap.size = A at hD ⊢
  have hZ : ∀ q : Nat, A q → z0 ≤ q := by rw [← hAe]; exact hZ0
  have hA : ∀ q : Nat, s.heap.size ≤ q → A q := fun q h => by rw [← hAe]; exact Or.inr h
  have hS : va_S A s.heap s.heap [] := va_S.rf
  have hl := lv_entry ([.int x0, .ref a_w]) (n := 2) (Nat.le_of_ble_eq_true rfl)
  rw [lg_entry_eq]
  generalize (lg_sl ([.int x0, .ref a_w]) ++ List.replicate (2 - (lg_sl ([.int x0, .ref a_w])).length) Slot.unset).toArray = ls at hl ⊢
  have hl : lv_has ls 2 [(0, .int x0), (1, .ref a_w)] := hl
  refine lv_aload_n hx hb d_Shor_read_0 rfl (lv_at hl 1 rfl) ?_
  refine lv_iconst (v := 2) hx hb d_Shor_read_1 (by decide) ?_
  obtain ⟨q_2, e_2⟩ : ∃ z, z = (cF_Word_clear 2) := ⟨_, rfl⟩
  refine wVv (As := [.int 2]) (rest := []) e_2 ⟨hx, hb, hml, hown, hts⟩ (cc_Word_clear l D tc tb z0 _ a_w w_n w_k w_d w_a w_b w_i 2) (cwV 1 hts (goodV a_352 a_353 a_354 a_9 a_355) rfl rfl rfl hv_Word_clear ⟨Nat.le_of_ble_eq_true rfl, Nat.le_of_ble_eq_true rfl⟩) hP hD hS hA hZ hK hB [0] rfl (by decide) (fun _ => rfl) rfl rfl rfl hl.1 rfl (Nat.le_of_ble_eq_true rfl) d_Shor_read_2 ⟨Nat.zero_le _, Nat.zero_le _⟩ (fun H locs hP hD hS => ?_)
  have hP : va_P D vwCl [(a_w, .inr (4, [.int q_2.1, .int q_2.2.1, .int q_2.2.2.1, .int q_2.2.2.2.1, .int q_2.2.2.2.2.1, .int q_2.2.2.2.2.2]))] H := hP
  have hD : va_D A [(a_w, .inr (4, [.int q_2.1, .int q_2.2.1, .int q_2.2.2.1, .int q_2.2.2.2.1, .int q_2.2.2.2.2.1, .int q_2.2.2.2.2.2]))] := hD
  refine lv_iload_n hx hb d_Shor_read_5 rfl (lv_at hl 0 rfl) ?_
  refine lv_iconst (v := 3) hx hb d_Shor_read_6 (by decide) ?_
  refine lv_iand hx hb d_Shor_read_7 ?_
  by_cases c_8_0 : (x0 &&& 3) = 0
  · skip
    refine lv_tableIn (tgt := 36) hx hb d_Shor_read_8 (by rw [c_8_0]; decide) (by rw [c_8_0]; decide) (by rw [c_8_0] <;> rfl) (by decide) ?_
    refine lv_iload_n hx hb d_Shor_read_36 rfl (lv_at hl 0 rfl) ?_
    refine lv_aload_n hx hb d_Shor_read_37 rfl (lv_at hl 1 rfl) ?_
    obtain ⟨q_38, e_38⟩ : ∃ z, z = (cF_ShortForm_readFirst q_2.2.1 q_2.2.2.1 q_2.2.2.2.1 q_2.2.2.2.2.1 q_2.2.2.2.2.2 x0) := ⟨_, rfl⟩
    refine wSv (As := [.int x0, .ref a_w]) (rest := []) e_38 ⟨hx, hb, hml, hown, hts⟩ (cc_ShortForm_readFirst l D tc tb z0 _ a_w q_2.1 q_2.2.1 q_2.2.2.1 q_2.2.2.2.1 q_2.2.2.2.2.1 q_2.2.2.2.2.2 x0) (va_cwS 2 hts (goodS a_360 a_361 a_11 a_362) rfl rfl rfl hs_Shor_readFirst ⟨Nat.le_of_ble_eq_true rfl, Nat.le_of_ble_eq_true rfl⟩) hP hD hS hA hZ hK hB [0] rfl (by decide) (fun _ => rfl) rfl hl.1 rfl (Nat.le_of_ble_eq_true rfl) d_Shor_read_38 ⟨Nat.zero_le _, Nat.zero_le _⟩ (fun H locs hP hD hS => ?_)
    have hP : va_P D vwCl [(a_w, .inr (4, [.int q_2.1, .int q_38.1, .int q_38.2.1, .int q_38.2.2.1, .int q_38.2.2.2.1, .int q_38.2.2.2.2]))] H := hP
    have hD : va_D A [(a_w, .inr (4, [.int q_2.1, .int q_38.1, .int q_38.2.1, .int q_38.2.2.1, .int q_38.2.2.2.1, .int q_38.2.2.2.2]))] := hD
    refine lv_goto (tgt := 60) hx hb d_Shor_read_41 (by decide) ?_
    exact W.vret hx hb hr (fun t ht hW => ⟨⟨(q_2.1, q_38.1, q_38.2.1, q_38.2.2.1, q_38.2.2.2.1, q_38.2.2.2.2), rfl, by rw [cF_ShortForm_read, ← e_2, cF_ShortForm_read_1, if_pos c_8_0, ← e_38, cF_ShortForm_read_2], by rw [ht]; exact hP, va_K.moved hW.alike hK, hD⟩, hS.F ht⟩) hS.2.2 d_Shor_read_60
  · skip
    by_cases c_8_1 : (x0 &&& 3) = 1
    · skip
      refine lv_tableIn (tgt := 44) hx hb d_Shor_read_8 (by rw [c_8_1]; decide) (by rw [c_8_1]; decide) (by rw [c_8_1] <;> rfl) (by decide) ?_
      refine lv_iload_n hx hb d_Shor_read_44 rfl (lv_at hl 0 rfl) ?_
      refine lv_aload_n hx hb d_Shor_read_45 rfl (lv_at hl 1 rfl) ?_
      obtain ⟨q_46, e_46⟩ : ∃ z, z = (cF_ShortForm_readSecond q_2.2.1 q_2.2.2.1 q_2.2.2.2.1 q_2.2.2.2.2.1 q_2.2.2.2.2.2 x0) := ⟨_, rfl⟩
      refine wSv (As := [.int x0, .ref a_w]) (rest := []) e_46 ⟨hx, hb, hml, hown, hts⟩ (cc_ShortForm_readSecond l D tc tb z0 _ a_w q_2.1 q_2.2.1 q_2.2.2.1 q_2.2.2.2.1 q_2.2.2.2.2.1 q_2.2.2.2.2.2 x0) (va_cwS 2 hts (goodS a_370 a_371 a_11 a_372) rfl rfl rfl hs_Shor_readSecond ⟨Nat.le_of_ble_eq_true rfl, Nat.le_of_ble_eq_true rfl⟩) hP hD hS hA hZ hK hB [0] rfl (by decide) (fun _ => rfl) rfl hl.1 rfl (Nat.le_of_ble_eq_true rfl) d_Shor_read_46 ⟨Nat.zero_le _, Nat.zero_le _⟩ (fun H locs hP hD hS => ?_)
      have hP : va_P D vwCl [(a_w, .inr (4, [.int q_2.1, .int q_46.1, .int q_46.2.1, .int q_46.2.2.1, .int q_46.2.2.2.1, .int q_46.2.2.2.2]))] H := hP
      have hD : va_D A [(a_w, .inr (4, [.int q_2.1, .int q_46.1, .int q_46.2.1, .int q_46.2.2.1, .int q_46.2.2.2.1, .int q_46.2.2.2.2]))] := hD
      refine lv_goto (tgt := 60) hx hb d_Shor_read_49 (by decide) ?_
      exact W.vret hx hb hr (fun t ht hW => ⟨⟨(q_2.1, q_46.1, q_46.2.1, q_46.2.2.1, q_46.2.2.2.1, q_46.2.2.2.2), rfl, by rw [cF_ShortForm_read, ← e_2, cF_ShortForm_read_1, if_neg c_8_0, if_pos c_8_1, ← e_46, cF_ShortForm_read_3], by rw [ht]; exact hP, va_K.moved hW.alike hK, hD⟩, hS.F ht⟩) hS.2.2 d_Shor_read_60
    · skip
      by_cases c_8_2 : (x0 &&& 3) = 2
      · skip
        refine lv_tableIn (tgt := 52) hx hb d_Shor_read_8 (by rw [c_8_2]; decide) (by rw [c_8_2]; decide) (by rw [c_8_2] <;> rfl) (by decide) ?_
        refine lv_iload_n hx hb d_Shor_read_52 rfl (lv_at hl 0 rfl) ?_
        refine lv_aload_n hx hb d_Shor_read_53 rfl (lv_at hl 1 rfl) ?_
        obtain ⟨q_54, e_54⟩ : ∃ z, z = (cF_ShortForm_readThird q_2.2.1 q_2.2.2.1 q_2.2.2.2.1 q_2.2.2.2.2.1 q_2.2.2.2.2.2 x0) := ⟨_, rfl⟩
        refine wSv (As := [.int x0, .ref a_w]) (rest := []) e_54 ⟨hx, hb, hml, hown, hts⟩ (cc_ShortForm_readThird l D tc tb z0 _ a_w q_2.1 q_2.2.1 q_2.2.2.1 q_2.2.2.2.1 q_2.2.2.2.2.1 q_2.2.2.2.2.2 x0) (va_cwS 2 hts (goodS a_401 a_402 a_11 a_403) rfl rfl rfl hs_Shor_readThird ⟨Nat.le_of_ble_eq_true rfl, Nat.le_of_ble_eq_true rfl⟩) hP hD hS hA hZ hK hB [0] rfl (by decide) (fun _ => rfl) rfl hl.1 rfl (Nat.le_of_ble_eq_true rfl) d_Shor_read_54 ⟨Nat.zero_le _, Nat.zero_le _⟩ (fun H locs hP hD hS => ?_)
        have hP : va_P D vwCl [(a_w, .inr (4, [.int q_2.1, .int q_54.1, .int q_54.2.1, .int q_54.2.2.1, .int q_54.2.2.2.1, .int q_54.2.2.2.2]))] H := hP
        have hD : va_D A [(a_w, .inr (4, [.int q_2.1, .int q_54.1, .int q_54.2.1, .int q_54.2.2.1, .int q_54.2.2.2.1, .int q_54.2.2.2.2]))] := hD
        refine lv_goto (tgt := 60) hx hb d_Shor_read_57 (by decide) ?_
        exact W.vret hx hb hr (fun t ht hW => ⟨⟨(q_2.1, q_54.1, q_54.2.1, q_54.2.2.1, q_54.2.2.2.1, q_54.2.2.2.2), rfl, by rw [cF_ShortForm_read, ← e_2, cF_ShortForm_read_1, if_neg c_8_0, if_neg c_8_1, if_pos c_8_2, ← e_54, cF_ShortForm_read_4], by rw [ht]; exact hP, va_K.moved hW.alike hK, hD⟩, hS.F ht⟩) hS.2.2 d_Shor_read_60
      · skip
        refine lv_tableOut (tgt := 60) hx hb d_Shor_read_8 (by have n_0 := lv_neT (a := 0) c_8_0 (by decide); have n_1 := lv_neT (a := 1) c_8_1 (by decide); have n_2 := lv_neT (a := 2) c_8_2 (by decide); omega) (by decide) ?_
        exact W.vret hx hb hr (fun t ht hW => ⟨⟨(q_2.1, q_2.2.1, q_2.2.2.1, q_2.2.2.2.1, q_2.2.2.2.2.1, q_2.2.2.2.2.2), rfl, by rw [cF_ShortForm_read, ← e_2, cF_ShortForm_read_1, if_neg c_8_0, if_neg c_8_1, if_neg c_8_2], by rw [ht]; exact hP, va_K.moved hW.alike hK, hD⟩, hS.F ht⟩) hS.2.2 d_Shor_read_60
