theorem ob_kind {x : Int32} {kt : Nat} (hkt : kt < tn_N) (h1 : ¬ x < 0) (h2 : ¬ nI (tn_l kt) ≤ x) : vp_in x (tn_l kt) := by
  have a1 := ob_nlt h1
  have a2 := ob_nle h2
  have e1 : (0 : Int32).toInt = 0 := by decide
  have hl : tn_l kt < 2 ^ 31 := tn_small kt hkt
  rw [nI_toInt hl] at a2
  rw [vp_in_iff]
  omega
def cF_LongForm_kindIn (kt : Nat) (x1 : Int32) : Int32 := (if x1 < 0 then (-1) else (if (nI (tn_l kt)) ≤ x1 then (-1) else (tn_v kt x1.toNatClampNeg)))
set_option maxHeartbeats 4000000 in
set_option maxRecDepth 100000 in
theorem cc_LongForm_kindIn (l : Launch) (D : va_G) (tc : Nat → ClassId) (tb : Nat → Nat) (z0 : Nat) (x1 : Int32) (kt : Nat) (hkt : kt < tn_N) : Met l y_Long_kindIn (wM y_Long_kindIn b_Long_kindIn 2 (some .int)) ({ frames := 0, cells := 0, slots := 0, locals := 0 }) (va_Pc [.ref (tb kt), .int x1] (Pr D tc tb z0 [])) (vp_Si (fun r => r = (cF_LongForm_kindIn kt x1))) 0 0 (fun _ => False) := by
  refine Met.ofW (cc := b_Long_kindIn) (maxL := 2) (ret := (some .int)) (by decide) rfl ?_
  intro p e s m args below meth c s₁ B hml hv
  obtain ⟨rfl, hP, hK, hB⟩ := hv
  have hx := B.exec
  have hb := B.bytes
  have hr := B.returns
  have hts : ∀ w ∈ wALL, w.before _ s = true := fun w h => atoms_spec (ws := (wM y_Long_kindIn b_Long_kindIn 2 (some .int))) B.pre w (List.mem_cons_of_mem _ h)
  have hown : s.vm.findClass "StepMachine$LongForm" = some m.cls := findClass_of_methodNamed B.named
  have hlocks := B.notSynchronized
  have hl := lv_entry ([.ref (tb kt), .int x1]) (n := 2) (Nat.le_of_ble_eq_true rfl)
  rw [lg_entry_eq]
  generalize (lg_sl ([.ref (tb kt), .int x1]) ++ List.replicate (2 - (lg_sl ([.ref (tb kt), .int x1])).length) Slot.unset).toArray = ls at hl ⊢
  have hl : lv_has ls 2 [(0, .ref (tb kt)), (1, .int x1)] := hl
  refine lv_iload_n hx hb d_Long_kindIn_0 rfl (lv_at hl 1 rfl) ?_
  refine lv_if_lt (tgt := 16) hx hb d_Long_kindIn_1 (by decide) (fun c_1 => ?_) (fun c_1 => ?_)
  · skip
    refine lv_iconst (v := (-1)) hx hb d_Long_kindIn_16 (by decide) ?_
    exact W.iret (v := (-1)) hx hb hr (fun t ht hW => ⟨_, rfl, by rw [cF_LongForm_kindIn, if_pos c_1], ht⟩) (fun q h => by cases h) d_Long_kindIn_17
  · skip
    refine lv_iload_n hx hb d_Long_kindIn_4 rfl (lv_at hl 1 rfl) ?_
    refine lv_aload_n hx hb d_Long_kindIn_5 rfl (lv_at hl 0 rfl) ?_
    refine va_tlen hx hb (hB kt hkt).2 va_S.rf (v := nI (tn_l kt)) rfl d_Long_kindIn_6 ?_
    refine lv_icmp_ge (tgt := 16) hx hb d_Long_kindIn_7 (by decide) (fun c_7 => ?_) (fun c_7 => ?_)
    · skip
      refine lv_iconst (v := (-1)) hx hb d_Long_kindIn_16 (by decide) ?_
      exact W.iret (v := (-1)) hx hb hr (fun t ht hW => ⟨_, rfl, by rw [cF_LongForm_kindIn, if_neg c_1, if_pos c_7], ht⟩) (fun q h => by cases h) d_Long_kindIn_17
    · skip
      refine lv_aload_n hx hb d_Long_kindIn_10 rfl (lv_at hl 0 rfl) ?_
      refine lv_iload_n hx hb d_Long_kindIn_11 rfl (lv_at hl 1 rfl) ?_
      refine va_ti hx hb (hB kt hkt).2 va_S.rf (ob_kind hkt c_1 c_7) (v := .int (tn_v kt x1.toNatClampNeg)) rfl d_Long_kindIn_12 ?_
      refine lv_goto (tgt := 17) hx hb d_Long_kindIn_13 (by decide) ?_
      exact W.iret (v := (tn_v kt x1.toNatClampNeg)) hx hb hr (fun t ht hW => ⟨_, rfl, by rw [cF_LongForm_kindIn, if_neg c_1, if_neg c_7], ht⟩) (fun q h => by cases h) d_Long_kindIn_17
def cF_LongForm_kindOfPair (x0 : Int32) (x1 : Int32) : Int32 := (if x1 = 0 then (cF_LongForm_kindIn 4 x0) else (if x1 = 1 then (cF_LongForm_kindIn 6 x0) else (if x1 = 32 then (cF_LongForm_kindIn 5 x0) else (-1))))
set_option maxHeartbeats 4000000 in
set_option maxRecDepth 100000 in
theorem cc_LongForm_kindOfPair (l : Launch) (D : va_G) (tc : Nat → ClassId) (tb : Nat → Nat) (z0 : Nat) (x0 : Int32) (x1 : Int32) : Met l y_Long_kindOfPair (wM y_Long_kindOfPair b_Long_kindOfPair 2 (some .int)) ({ frames := 1, cells := 0, slots := 0, locals := 21 }) (va_Pc [.int x0, .int x1] (Pr D tc tb z0 [])) (vp_Si (fun r => r = (cF_LongForm_kindOfPair x0 x1))) 0 0 (fun _ => False) := by
  refine Met.ofW (cc := b_Long_kindOfPair) (maxL := 2) (ret := (some .int)) (by decide) rfl ?_
  intro p e s m args below meth c s₁ B hml hv
  obtain ⟨rfl, hP, hK, hB⟩ := hv
  have hx := B.exec
  have hb := B.bytes
  have hr := B.returns
  have hts : ∀ w ∈ wALL, w.before _ s = true := fun w h => atoms_spec (ws := (wM y_Long_kindOfPair b_Long_kindOfPair 2 (some .int))) B.pre w (List.mem_cons_of_mem _ h)
  have hown : s.vm.findClass "StepMachine$LongForm" = some m.cls := findClass_of_methodNamed B.named
  have hlocks := B.notSynchronized
  have hl := lv_entry ([.int x0, .int x1]) (n := 2) (Nat.le_of_ble_eq_true rfl)
  rw [lg_entry_eq]
  generalize (lg_sl ([.int x0, .int x1]) ++ List.replicate (2 - (lg_sl ([.int x0, .int x1])).length) Slot.unset).toArray = ls at hl ⊢
  have hl : lv_has ls 2 [(0, .int x0), (1, .int x1)] := hl
  refine lv_iload_n hx hb d_Long_kindOfPair_0 rfl (lv_at hl 1 rfl) ?_
  by_cases c_1_0 : x1 = 0
  · skip
    refine lv_lookup (off := 35) (tgt := 36) hx hb d_Long_kindOfPair_1 (by decide) (by rw [c_1_0] <;> rfl) (by decide) ?_
    refine va_gets hx hb (hB 4 (by decide)).1 va_S.rf hown (hts _ a_449) (fun _ h9 => h9) d_Long_kindOfPair_36 ?_
    refine lv_iload_n hx hb d_Long_kindOfPair_39 rfl (lv_at hl 0 rfl) ?_
    refine roSi (As := [.ref (tb 4), .int x0]) (rest := []) ⟨hx, hb, hml, hown, hts⟩ (cc_LongForm_kindIn l D tc tb z0 x0 4 (by decide)) (va_cwS 2 hts (goodS a_428 a_429 a_12 a_430) rfl rfl rfl hs_Long_kindIn ⟨Nat.le_of_ble_eq_true rfl, Nat.le_of_ble_eq_true rfl⟩) (hP.sub [] rfl) hK hB rfl hl.1 rfl (Nat.le_of_ble_eq_true rfl) d_Long_kindOfPair_40 ⟨Nat.zero_le _, Nat.zero_le _⟩ ?_
    exact W.iret (v := (cF_LongForm_kindIn 4 x0)) hx hb hr (fun t ht hW => ⟨_, rfl, by rw [cF_LongForm_kindOfPair, if_pos c_1_0], ht⟩) (fun q h => by cases h) d_Long_kindOfPair_43
  · skip
    by_cases c_1_1 : x1 = 1
    · skip
      refine lv_lookup (off := 43) (tgt := 44) hx hb d_Long_kindOfPair_1 (by decide) (by rw [c_1_1] <;> rfl) (by decide) ?_
      refine va_gets hx hb (hB 6 (by decide)).1 va_S.rf hown (hts _ a_450) (fun _ h9 => h9) d_Long_kindOfPair_44 ?_
      refine lv_iload_n hx hb d_Long_kindOfPair_47 rfl (lv_at hl 0 rfl) ?_
      refine roSi (As := [.ref (tb 6), .int x0]) (rest := []) ⟨hx, hb, hml, hown, hts⟩ (cc_LongForm_kindIn l D tc tb z0 x0 6 (by decide)) (va_cwS 2 hts (goodS a_428 a_429 a_12 a_430) rfl rfl rfl hs_Long_kindIn ⟨Nat.le_of_ble_eq_true rfl, Nat.le_of_ble_eq_true rfl⟩) (hP.sub [] rfl) hK hB rfl hl.1 rfl (Nat.le_of_ble_eq_true rfl) d_Long_kindOfPair_48 ⟨Nat.zero_le _, Nat.zero_le _⟩ ?_
      exact W.iret (v := (cF_LongForm_kindIn 6 x0)) hx hb hr (fun t ht hW => ⟨_, rfl, by rw [cF_LongForm_kindOfPair, if_neg c_1_0, if_pos c_1_1], ht⟩) (fun q h => by cases h) d_Long_kindOfPair_51
    · skip
      by_cases c_1_2 : x1 = 32
      · skip
        refine lv_lookup (off := 51) (tgt := 52) hx hb d_Long_kindOfPair_1 (by decide) (by rw [c_1_2] <;> rfl) (by decide) ?_
        refine va_gets hx hb (hB 5 (by decide)).1 va_S.rf hown (hts _ a_451) (fun _ h9 => h9) d_Long_kindOfPair_52 ?_
        refine lv_iload_n hx hb d_Long_kindOfPair_55 rfl (lv_at hl 0 rfl) ?_
        refine roSi (As := [.ref (tb 5), .int x0]) (rest := []) ⟨hx, hb, hml, hown, hts⟩ (cc_LongForm_kindIn l D tc tb z0 x0 5 (by decide)) (va_cwS 2 hts (goodS a_428 a_429 a_12 a_430) rfl rfl rfl hs_Long_kindIn ⟨Nat.le_of_ble_eq_true rfl, Nat.le_of_ble_eq_true rfl⟩) (hP.sub [] rfl) hK hB rfl hl.1 rfl (Nat.le_of_ble_eq_true rfl) d_Long_kindOfPair_56 ⟨Nat.zero_le _, Nat.zero_le _⟩ ?_
        exact W.iret (v := (cF_LongForm_kindIn 5 x0)) hx hb hr (fun t ht hW => ⟨_, rfl, by rw [cF_LongForm_kindOfPair, if_neg c_1_0, if_neg c_1_1, if_pos c_1_2], ht⟩) (fun q h => by cases h) d_Long_kindOfPair_59
      · skip
        refine lv_lookup (off := 59) (tgt := 60) hx hb d_Long_kindOfPair_1 (by decide) ((lv_osw (k := 0) c_1_0 (by decide)).trans <| (lv_osw (k := 1) c_1_1 (by decide)).trans <| (lv_osw (k := 32) c_1_2 (by decide)).trans <| rfl) (by decide) ?_
        refine lv_iconst (v := (-1)) hx hb d_Long_kindOfPair_60 (by decide) ?_
        exact W.iret (v := (-1)) hx hb hr (fun t ht hW => ⟨_, rfl, by rw [cF_LongForm_kindOfPair, if_neg c_1_0, if_neg c_1_1, if_neg c_1_2], ht⟩) (fun q h => by cases h) d_Long_kindOfPair_61
def cF_LongForm_kindOfWhole (x0 : Int32) : Int32 := (if x0 = 115 then 46 else (if x0 = 1048691 then 47 else (if x0 = 267386895 then 45 else (-1))))
set_option maxHeartbeats 4000000 in
set_option maxRecDepth 100000 in
theorem cc_LongForm_kindOfWhole (l : Launch) (D : va_G) (tc : Nat → ClassId) (tb : Nat → Nat) (z0 : Nat) (x0 : Int32) : Met l y_Long_kindOfWhole (wM y_Long_kindOfWhole b_Long_kindOfWhole 1 (some .int)) ({ frames := 0, cells := 0, slots := 0, locals := 0 }) (va_Pc [.int x0] (Pr D tc tb z0 [])) (vp_Si (fun r => r = (cF_LongForm_kindOfWhole x0))) 0 0 (fun _ => False) := by
  refine Met.ofW (cc := b_Long_kindOfWhole) (maxL := 1) (ret := (some .int)) (by decide) rfl ?_
  intro p e s m args below meth c s₁ B hml hv
  obtain ⟨rfl, hP, hK, hB⟩ := hv
  have hx := B.exec
  have hb := B.bytes
  have hr := B.returns
  have hts : ∀ w ∈ wALL, w.before _ s = true := fun w h => atoms_spec (ws := (wM y_Long_kindOfWhole b_Long_kindOfWhole 1 (some .int))) B.pre w (List.mem_cons_of_mem _ h)
  have hown : s.vm.findClass "StepMachine$LongForm" = some m.cls := findClass_of_methodNamed B.named
  have hlocks := B.notSynchronized
  have hl := lv_entry ([.int x0]) (n := 1) (Nat.le_of_ble_eq_true rfl)
  rw [lg_entry_eq]
  generalize (lg_sl ([.int x0]) ++ List.replicate (1 - (lg_sl ([.int x0])).length) Slot.unset).toArray = ls at hl ⊢
  have hl : lv_has ls 1 [(0, .int x0)] := hl
  refine lv_iload_n hx hb d_Long_kindOfWhole_0 rfl (lv_at hl 0 rfl) ?_
  by_cases c_1_0 : x0 = 115
  · skip
    refine lv_lookup (off := 38) (tgt := 39) hx hb d_Long_kindOfWhole_1 (by decide) (by rw [c_1_0] <;> rfl) (by decide) ?_
    refine lv_bipush (v := 46) hx hb d_Long_kindOfWhole_39 (by decide) ?_
    exact W.iret (v := 46) hx hb hr (fun t ht hW => ⟨_, rfl, by rw [cF_LongForm_kindOfWhole, if_pos c_1_0], ht⟩) (fun q h => by cases h) d_Long_kindOfWhole_41
  · skip
    by_cases c_1_1 : x0 = 1048691
    · skip
      refine lv_lookup (off := 41) (tgt := 42) hx hb d_Long_kindOfWhole_1 (by decide) (by rw [c_1_1] <;> rfl) (by decide) ?_
      refine lv_bipush (v := 47) hx hb d_Long_kindOfWhole_42 (by decide) ?_
      exact W.iret (v := 47) hx hb hr (fun t ht hW => ⟨_, rfl, by rw [cF_LongForm_kindOfWhole, if_neg c_1_0, if_pos c_1_1], ht⟩) (fun q h => by cases h) d_Long_kindOfWhole_44
    · skip
      by_cases c_1_2 : x0 = 267386895
      · skip
        refine lv_lookup (off := 35) (tgt := 36) hx hb d_Long_kindOfWhole_1 (by decide) (by rw [c_1_2] <;> rfl) (by decide) ?_
        refine lv_bipush (v := 45) hx hb d_Long_kindOfWhole_36 (by decide) ?_
        exact W.iret (v := 45) hx hb hr (fun t ht hW => ⟨_, rfl, by rw [cF_LongForm_kindOfWhole, if_neg c_1_0, if_neg c_1_1, if_pos c_1_2], ht⟩) (fun q h => by cases h) d_Long_kindOfWhole_38
      · skip
        refine lv_lookup (off := 44) (tgt := 45) hx hb d_Long_kindOfWhole_1 (by decide) ((lv_osw (k := 115) c_1_0 (by decide)).trans <| (lv_osw (k := 1048691) c_1_1 (by decide)).trans <| (lv_osw (k := 267386895) c_1_2 (by decide)).trans <| rfl) (by decide) ?_
        refine lv_iconst (v := (-1)) hx hb d_Long_kindOfWhole_45 (by decide) ?_
        exact W.iret (v := (-1)) hx hb hr (fun t ht hW => ⟨_, rfl, by rw [cF_LongForm_kindOfWhole, if_neg c_1_0, if_neg c_1_1, if_neg c_1_2], ht⟩) (fun q h => by cases h) d_Long_kindOfWhole_46
def cF_LongForm_kindOfShift (x0 : Int32) (x1 : Int32) : Int32 := (if x1 = 0 then (if x0 = 1 then 24 else 25) else (if x1 = 32 then (if x0 = 5 then 26 else (-1)) else (-1)))
set_option maxHeartbeats 4000000 in
set_option maxRecDepth 100000 in
theorem cc_LongForm_kindOfShift (l : Launch) (D : va_G) (tc : Nat → ClassId) (tb : Nat → Nat) (z0 : Nat) (x0 : Int32) (x1 : Int32) : Met l y_Long_kindOfShift (wM y_Long_kindOfShift b_Long_kindOfShift 2 (some .int)) ({ frames := 0, cells := 0, slots := 0, locals := 0 }) (va_Pc [.int x0, .int x1] (Pr D tc tb z0 [])) (vp_Si (fun r => r = (cF_LongForm_kindOfShift x0 x1))) 0 0 (fun _ => False) := by
  refine Met.ofW (cc := b_Long_kindOfShift) (maxL := 2) (ret := (some .int)) (by decide) rfl ?_
  intro p e s m args below meth c s₁ B hml hv
  obtain ⟨rfl, hP, hK, hB⟩ := hv
  have hx := B.exec
  have hb := B.bytes
  have hr := B.returns
  have hts : ∀ w ∈ wALL, w.before _ s = true := fun w h => atoms_spec (ws := (wM y_Long_kindOfShift b_Long_kindOfShift 2 (some .int))) B.pre w (List.mem_cons_of_mem _ h)
  have hown : s.vm.findClass "StepMachine$LongForm" = some m.cls := findClass_of_methodNamed B.named
  have hlocks := B.notSynchronized
  have hl := lv_entry ([.int x0, .int x1]) (n := 2) (Nat.le_of_ble_eq_true rfl)
  rw [lg_entry_eq]
  generalize (lg_sl ([.int x0, .int x1]) ++ List.replicate (2 - (lg_sl ([.int x0, .int x1])).length) Slot.unset).toArray = ls at hl ⊢
  have hl : lv_has ls 2 [(0, .int x0), (1, .int x1)] := hl
  refine lv_iload_n hx hb d_Long_kindOfShift_0 rfl (lv_at hl 1 rfl) ?_
  refine lv_if_ne (tgt := 17) hx hb d_Long_kindOfShift_1 (by decide) (fun c_1 => ?_) (fun c_1 => ?_)
  · skip
    refine lv_iload_n hx hb d_Long_kindOfShift_17 rfl (lv_at hl 1 rfl) ?_
    refine lv_bipush (v := 32) hx hb d_Long_kindOfShift_18 (by decide) ?_
    refine lv_icmp_ne (tgt := 33) hx hb d_Long_kindOfShift_20 (by decide) (fun c_20 => ?_) (fun c_20 => ?_)
    · skip
      refine lv_iconst (v := (-1)) hx hb d_Long_kindOfShift_33 (by decide) ?_
      exact W.iret (v := (-1)) hx hb hr (fun t ht hW => ⟨_, rfl, by rw [cF_LongForm_kindOfShift, if_neg c_1, if_neg c_20], ht⟩) (fun q h => by cases h) d_Long_kindOfShift_34
    · skip
      refine lv_iload_n hx hb d_Long_kindOfShift_23 rfl (lv_at hl 0 rfl) ?_
      refine lv_iconst (v := 5) hx hb d_Long_kindOfShift_24 (by decide) ?_
      refine lv_icmp_ne (tgt := 33) hx hb d_Long_kindOfShift_25 (by decide) (fun c_25 => ?_) (fun c_25 => ?_)
      · skip
        refine lv_iconst (v := (-1)) hx hb d_Long_kindOfShift_33 (by decide) ?_
        exact W.iret (v := (-1)) hx hb hr (fun t ht hW => ⟨_, rfl, by rw [cF_LongForm_kindOfShift, if_neg c_1, if_pos c_20, if_neg c_25], ht⟩) (fun q h => by cases h) d_Long_kindOfShift_34
      · skip
        refine lv_bipush (v := 26) hx hb d_Long_kindOfShift_28 (by decide) ?_
        refine lv_goto (tgt := 34) hx hb d_Long_kindOfShift_30 (by decide) ?_
        exact W.iret (v := 26) hx hb hr (fun t ht hW => ⟨_, rfl, by rw [cF_LongForm_kindOfShift, if_neg c_1, if_pos c_20, if_pos c_25], ht⟩) (fun q h => by cases h) d_Long_kindOfShift_34
  · skip
    refine lv_iload_n hx hb d_Long_kindOfShift_4 rfl (lv_at hl 0 rfl) ?_
    refine lv_iconst (v := 1) hx hb d_Long_kindOfShift_5 (by decide) ?_
    refine lv_icmp_ne (tgt := 14) hx hb d_Long_kindOfShift_6 (by decide) (fun c_6 => ?_) (fun c_6 => ?_)
    · skip
      refine lv_bipush (v := 25) hx hb d_Long_kindOfShift_14 (by decide) ?_
      exact W.iret (v := 25) hx hb hr (fun t ht hW => ⟨_, rfl, by rw [cF_LongForm_kindOfShift, if_pos c_1, if_neg c_6], ht⟩) (fun q h => by cases h) d_Long_kindOfShift_16
    · skip
      refine lv_bipush (v := 24) hx hb d_Long_kindOfShift_9 (by decide) ?_
      refine lv_goto (tgt := 16) hx hb d_Long_kindOfShift_11 (by decide) ?_
      exact W.iret (v := 24) hx hb hr (fun t ht hW => ⟨_, rfl, by rw [cF_LongForm_kindOfShift, if_pos c_1, if_pos c_6], ht⟩) (fun q h => by cases h) d_Long_kindOfShift_16
def cF_LongForm_immediateOfJump (x0 : Int32) : Int32 := (cF_Word_signed ((((cF_Word_part x0 31 1 20) ||| (cF_Word_part x0 21 10 1)) ||| (cF_Word_part x0 20 1 11)) ||| (cF_Word_part x0 12 8 12)) 21)
set_option maxHeartbeats 4000000 in
set_option maxRecDepth 100000 in
theorem cc_LongForm_immediateOfJump (l : Launch) (D : va_G) (tc : Nat → ClassId) (tb : Nat → Nat) (z0 : Nat) (x0 : Int32) : Met l y_Long_immediateOfJump (wM y_Long_immediateOfJump b_Long_immediateOfJump 2 (some .int)) ({ frames := 1, cells := 0, slots := 0, locals := 23 }) (va_Pc [.int x0] (Pr D tc tb z0 [])) (vp_Si (fun r => r = (cF_LongForm_immediateOfJump x0))) 0 0 (fun _ => False) := by
  refine Met.ofW (cc := b_Long_immediateOfJump) (maxL := 2) (ret := (some .int)) (by decide) rfl ?_
  intro p e s m args below meth c s₁ B hml hv
  obtain ⟨rfl, hP, hK, hB⟩ := hv
  have hx := B.exec
  have hb := B.bytes
  have hr := B.returns
  have hts : ∀ w ∈ wALL, w.before _ s = true := fun w h => atoms_spec (ws := (wM y_Long_immediateOfJump b_Long_immediateOfJump 2 (some .int))) B.pre w (List.mem_cons_of_mem _ h)
  have hown : s.vm.findClass "StepMachine$LongForm" = some m.cls := findClass_of_methodNamed B.named
  have hlocks := B.notSynchronized
  have hl := lv_entry ([.int x0]) (n := 2) (Nat.le_of_ble_eq_true rfl)
  rw [lg_entry_eq]
  generalize (lg_sl ([.int x0]) ++ List.replicate (2 - (lg_sl ([.int x0])).length) Slot.unset).toArray = ls at hl ⊢
  have hl : lv_has ls 2 [(0, .int x0)] := hl
  refine lv_iload_n hx hb d_Long_immediateOfJump_0 rfl (lv_at hl 0 rfl) ?_
  refine lv_bipush (v := 31) hx hb d_Long_immediateOfJump_1 (by decide) ?_
  refine lv_iconst (v := 1) hx hb d_Long_immediateOfJump_3 (by decide) ?_
  refine lv_bipush (v := 20) hx hb d_Long_immediateOfJump_4 (by decide) ?_
  refine roSi (As := [.int x0, .int 31, .int 1, .int 20]) (rest := []) ⟨hx, hb, hml, hown, hts⟩ (cc_Word_part l D tc tb z0 x0 31 1 20) (va_cwS 4 hts (goodS a_425 a_364 a_9 a_365) rfl rfl rfl hs_Word_part ⟨Nat.le_of_ble_eq_true rfl, Nat.le_of_ble_eq_true rfl⟩) (hP.sub [] rfl) hK hB rfl hl.1 rfl (Nat.le_of_ble_eq_true rfl) d_Long_immediateOfJump_6 ⟨Nat.zero_le _, Nat.zero_le _⟩ ?_
  refine lv_iload_n hx hb d_Long_immediateOfJump_9 rfl (lv_at hl 0 rfl) ?_
  refine lv_bipush (v := 21) hx hb d_Long_immediateOfJump_10 (by decide) ?_
  refine lv_bipush (v := 10) hx hb d_Long_immediateOfJump_12 (by decide) ?_
  refine lv_iconst (v := 1) hx hb d_Long_immediateOfJump_14 (by decide) ?_
  refine roSi (As := [.int x0, .int 21, .int 10, .int 1]) (rest := [.int (cF_Word_part x0 31 1 20)]) ⟨hx, hb, hml, hown, hts⟩ (cc_Word_part l D tc tb z0 x0 21 10 1) (va_cwS 4 hts (goodS a_425 a_364 a_9 a_365) rfl rfl rfl hs_Word_part ⟨Nat.le_of_ble_eq_true rfl, Nat.le_of_ble_eq_true rfl⟩) (hP.sub [] rfl) hK hB rfl hl.1 rfl (Nat.le_of_ble_eq_true rfl) d_Long_immediateOfJump_15 ⟨Nat.zero_le _, Nat.zero_le _⟩ ?_
  refine lv_ior hx hb d_Long_immediateOfJump_18 ?_
  refine lv_iload_n hx hb d_Long_immediateOfJump_19 rfl (lv_at hl 0 rfl) ?_
  refine lv_bipush (v := 20) hx hb d_Long_immediateOfJump_20 (by decide) ?_
  refine lv_iconst (v := 1) hx hb d_Long_immediateOfJump_22 (by decide) ?_
  refine lv_bipush (v := 11) hx hb d_Long_immediateOfJump_23 (by decide) ?_
  refine roSi (As := [.int x0, .int 20, .int 1, .int 11]) (rest := [.int ((cF_Word_part x0 31 1 20) ||| (cF_Word_part x0 21 10 1))]) ⟨hx, hb, hml, hown, hts⟩ (cc_Word_part l D tc tb z0 x0 20 1 11) (va_cwS 4 hts (goodS a_425 a_364 a_9 a_365) rfl rfl rfl hs_Word_part ⟨Nat.le_of_ble_eq_true rfl, Nat.le_of_ble_eq_true rfl⟩) (hP.sub [] rfl) hK hB rfl hl.1 rfl (Nat.le_of_ble_eq_true rfl) d_Long_immediateOfJump_25 ⟨Nat.zero_le _, Nat.zero_le _⟩ ?_
  refine lv_ior hx hb d_Long_immediateOfJump_28 ?_
  refine lv_iload_n hx hb d_Long_immediateOfJump_29 rfl (lv_at hl 0 rfl) ?_
  refine lv_bipush (v := 12) hx hb d_Long_immediateOfJump_30 (by decide) ?_
  refine lv_bipush (v := 8) hx hb d_Long_immediateOfJump_32 (by decide) ?_
  refine lv_bipush (v := 12) hx hb d_Long_immediateOfJump_34 (by decide) ?_
  refine roSi (As := [.int x0, .int 12, .int 8, .int 12]) (rest := [.int (((cF_Word_part x0 31 1 20) ||| (cF_Word_part x0 21 10 1)) ||| (cF_Word_part x0 20 1 11))]) ⟨hx, hb, hml, hown, hts⟩ (cc_Word_part l D tc tb z0 x0 12 8 12) (va_cwS 4 hts (goodS a_425 a_364 a_9 a_365) rfl rfl rfl hs_Word_part ⟨Nat.le_of_ble_eq_true rfl, Nat.le_of_ble_eq_true rfl⟩) (hP.sub [] rfl) hK hB rfl hl.1 rfl (Nat.le_of_ble_eq_true rfl) d_Long_immediateOfJump_36 ⟨Nat.zero_le _, Nat.zero_le _⟩ ?_
  refine lv_ior hx hb d_Long_immediateOfJump_39 ?_
  refine lv_istore_n (lv' := [(1, .int ((((cF_Word_part x0 31 1 20) ||| (cF_Word_part x0 21 10 1)) ||| (cF_Word_part x0 20 1 11)) ||| (cF_Word_part x0 12 8 12))), (0, .int x0)]) hx hb d_Long_immediateOfJump_40 rfl hl (by decide) rfl (fun ls hl => ?_)
  refine lv_iload_n hx hb d_Long_immediateOfJump_41 rfl (lv_at hl 0 rfl) ?_
  refine lv_bipush (v := 21) hx hb d_Long_immediateOfJump_42 (by decide) ?_
  refine roSi (As := [.int ((((cF_Word_part x0 31 1 20) ||| (cF_Word_part x0 21 10 1)) ||| (cF_Word_part x0 20 1 11)) ||| (cF_Word_part x0 12 8 12)), .int 21]) (rest := []) ⟨hx, hb, hml, hown, hts⟩ (cc_Word_signed l D tc tb z0 ((((cF_Word_part x0 31 1 20) ||| (cF_Word_part x0 21 10 1)) ||| (cF_Word_part x0 20 1 11)) ||| (cF_Word_part x0 12 8 12)) 21) (va_cwS 2 hts (goodS a_426 a_377 a_9 a_378) rfl rfl rfl hs_Word_signed ⟨Nat.le_of_ble_eq_true rfl, Nat.le_of_ble_eq_true rfl⟩) (hP.sub [] rfl) hK hB rfl hl.1 rfl (Nat.le_of_ble_eq_true rfl) d_Long_immediateOfJump_44 ⟨Nat.zero_le _, Nat.zero_le _⟩ ?_
  exact W.iret (v := (cF_Word_signed ((((cF_Word_part x0 31 1 20) ||| (cF_Word_part x0 21 10 1)) ||| (cF_Word_part x0 20 1 11)) ||| (cF_Word_part x0 12 8 12)) 21)) hx hb hr (fun t ht hW => ⟨_, rfl, by rw [cF_LongForm_immediateOfJump], ht⟩) (fun q h => by cases h) d_Long_immediateOfJump_47
def cF_LongForm_immediateOfBranch (x0 : Int32) : Int32 := (cF_Word_signed ((((cF_Word_part x0 31 1 12) ||| (cF_Word_part x0 25 6 5)) ||| (cF_Word_part x0 8 4 1)) ||| (cF_Word_part x0 7 1 11)) 13)
set_option maxHeartbeats 4000000 in
set_option maxRecDepth 100000 in
theorem cc_LongForm_immediateOfBranch (l : Launch) (D : va_G) (tc : Nat → ClassId) (tb : Nat → Nat) (z0 : Nat) (x0 : Int32) : Met l y_Long_immediateOfBranch (wM y_Long_immediateOfBranch b_Long_immediateOfBranch 2 (some .int)) ({ frames := 1, cells := 0, slots := 0, locals := 23 }) (va_Pc [.int x0] (Pr D tc tb z0 [])) (vp_Si (fun r => r = (cF_LongForm_immediateOfBranch x0))) 0 0 (fun _ => False) := by
  refine Met.ofW (cc := b_Long_immediateOfBranch) (maxL := 2) (ret := (some .int)) (by decide) rfl ?_
  intro p e s m args below meth c s₁ B hml hv
  obtain ⟨rfl, hP, hK, hB⟩ := hv
  have hx := B.exec
  have hb := B.bytes
  have hr := B.returns
  have hts : ∀ w ∈ wALL, w.before _ s = true := fun w h => atoms_spec (ws := (wM y_Long_immediateOfBranch b_Long_immediateOfBranch 2 (some .int))) B.pre w (List.mem_cons_of_mem _ h)
  have hown : s.vm.findClass "StepMachine$LongForm" = some m.cls := findClass_of_methodNamed B.named
  have hlocks := B.notSynchronized
  have hl := lv_entry ([.int x0]) (n := 2) (Nat.le_of_ble_eq_true rfl)
  rw [lg_entry_eq]
  generalize (lg_sl ([.int x0]) ++ List.replicate (2 - (lg_sl ([.int x0])).length) Slot.unset).toArray = ls at hl ⊢
  have hl : lv_has ls 2 [(0, .int x0)] := hl
  refine lv_iload_n hx hb d_Long_immediateOfBranch_0 rfl (lv_at hl 0 rfl) ?_
  refine lv_bipush (v := 31) hx hb d_Long_immediateOfBranch_1 (by decide) ?_
  refine lv_iconst (v := 1) hx hb d_Long_immediateOfBranch_3 (by decide) ?_
  refine lv_bipush (v := 12) hx hb d_Long_immediateOfBranch_4 (by decide) ?_
  refine roSi (As := [.int x0, .int 31, .int 1, .int 12]) (rest := []) ⟨hx, hb, hml, hown, hts⟩ (cc_Word_part l D tc tb z0 x0 31 1 12) (va_cwS 4 hts (goodS a_425 a_364 a_9 a_365) rfl rfl rfl hs_Word_part ⟨Nat.le_of_ble_eq_true rfl, Nat.le_of_ble_eq_true rfl⟩) (hP.sub [] rfl) hK hB rfl hl.1 rfl (Nat.le_of_ble_eq_true rfl) d_Long_immediateOfBranch_6 ⟨Nat.zero_le _, Nat.zero_le _⟩ ?_
  refine lv_iload_n hx hb d_Long_immediateOfBranch_9 rfl (lv_at hl 0 rfl) ?_
  refine lv_bipush (v := 25) hx hb d_Long_immediateOfBranch_10 (by decide) ?_
  refine lv_bipush (v := 6) hx hb d_Long_immediateOfBranch_12 (by decide) ?_
  refine lv_iconst (v := 5) hx hb d_Long_immediateOfBranch_14 (by decide) ?_
  refine roSi (As := [.int x0, .int 25, .int 6, .int 5]) (rest := [.int (cF_Word_part x0 31 1 12)]) ⟨hx, hb, hml, hown, hts⟩ (cc_Word_part l D tc tb z0 x0 25 6 5) (va_cwS 4 hts (goodS a_425 a_364 a_9 a_365) rfl rfl rfl hs_Word_part ⟨Nat.le_of_ble_eq_true rfl, Nat.le_of_ble_eq_true rfl⟩) (hP.sub [] rfl) hK hB rfl hl.1 rfl (Nat.le_of_ble_eq_true rfl) d_Long_immediateOfBranch_15 ⟨Nat.zero_le _, Nat.zero_le _⟩ ?_
  refine lv_ior hx hb d_Long_immediateOfBranch_18 ?_
  refine lv_iload_n hx hb d_Long_immediateOfBranch_19 rfl (lv_at hl 0 rfl) ?_
  refine lv_bipush (v := 8) hx hb d_Long_immediateOfBranch_20 (by decide) ?_
  refine lv_iconst (v := 4) hx hb d_Long_immediateOfBranch_22 (by decide) ?_
  refine lv_iconst (v := 1) hx hb d_Long_immediateOfBranch_23 (by decide) ?_
  refine roSi (As := [.int x0, .int 8, .int 4, .int 1]) (rest := [.int ((cF_Word_part x0 31 1 12) ||| (cF_Word_part x0 25 6 5))]) ⟨hx, hb, hml, hown, hts⟩ (cc_Word_part l D tc tb z0 x0 8 4 1) (va_cwS 4 hts (goodS a_425 a_364 a_9 a_365) rfl rfl rfl hs_Word_part ⟨Nat.le_of_ble_eq_true rfl, Nat.le_of_ble_eq_true rfl⟩) (hP.sub [] rfl) hK hB rfl hl.1 rfl (Nat.le_of_ble_eq_true rfl) d_Long_immediateOfBranch_24 ⟨Nat.zero_le _, Nat.zero_le _⟩ ?_
  refine lv_ior hx hb d_Long_immediateOfBranch_27 ?_
  refine lv_iload_n hx hb d_Long_immediateOfBranch_28 rfl (lv_at hl 0 rfl) ?_
  refine lv_bipush (v := 7) hx hb d_Long_immediateOfBranch_29 (by decide) ?_
  refine lv_iconst (v := 1) hx hb d_Long_immediateOfBranch_31 (by decide) ?_
  refine lv_bipush (v := 11) hx hb d_Long_immediateOfBranch_32 (by decide) ?_
  refine roSi (As := [.int x0, .int 7, .int 1, .int 11]) (rest := [.int (((cF_Word_part x0 31 1 12) ||| (cF_Word_part x0 25 6 5)) ||| (cF_Word_part x0 8 4 1))]) ⟨hx, hb, hml, hown, hts⟩ (cc_Word_part l D tc tb z0 x0 7 1 11) (va_cwS 4 hts (goodS a_425 a_364 a_9 a_365) rfl rfl rfl hs_Word_part ⟨Nat.le_of_ble_eq_true rfl, Nat.le_of_ble_eq_true rfl⟩) (hP.sub [] rfl) hK hB rfl hl.1 rfl (Nat.le_of_ble_eq_true rfl) d_Long_immediateOfBranch_34 ⟨Nat.zero_le _, Nat.zero_le _⟩ ?_
  refine lv_ior hx hb d_Long_immediateOfBranch_37 ?_
  refine lv_istore_n (lv' := [(1, .int ((((cF_Word_part x0 31 1 12) ||| (cF_Word_part x0 25 6 5)) ||| (cF_Word_part x0 8 4 1)) ||| (cF_Word_part x0 7 1 11))), (0, .int x0)]) hx hb d_Long_immediateOfBranch_38 rfl hl (by decide) rfl (fun ls hl => ?_)
  refine lv_iload_n hx hb d_Long_immediateOfBranch_39 rfl (lv_at hl 0 rfl) ?_
  refine lv_bipush (v := 13) hx hb d_Long_immediateOfBranch_40 (by decide) ?_
  refine roSi (As := [.int ((((cF_Word_part x0 31 1 12) ||| (cF_Word_part x0 25 6 5)) ||| (cF_Word_part x0 8 4 1)) ||| (cF_Word_part x0 7 1 11)), .int 13]) (rest := []) ⟨hx, hb, hml, hown, hts⟩ (cc_Word_signed l D tc tb z0 ((((cF_Word_part x0 31 1 12) ||| (cF_Word_part x0 25 6 5)) ||| (cF_Word_part x0 8 4 1)) ||| (cF_Word_part x0 7 1 11)) 13) (va_cwS 2 hts (goodS a_426 a_377 a_9 a_378) rfl rfl rfl hs_Word_signed ⟨Nat.le_of_ble_eq_true rfl, Nat.le_of_ble_eq_true rfl⟩) (hP.sub [] rfl) hK hB rfl hl.1 rfl (Nat.le_of_ble_eq_true rfl) d_Long_immediateOfBranch_42 ⟨Nat.zero_le _, Nat.zero_le _⟩ ?_
  exact W.iret (v := (cF_Word_signed ((((cF_Word_part x0 31 1 12) ||| (cF_Word_part x0 25 6 5)) ||| (cF_Word_part x0 8 4 1)) ||| (cF_Word_part x0 7 1 11)) 13)) hx hb hr (fun t ht hW => ⟨_, rfl, by rw [cF_LongForm_immediateOfBranch], ht⟩) (fun q h => by cases h) d_Long_immediateOfBranch_45
def cF_LongForm_immediateOfStore (x0 : Int32) : Int32 := (cF_Word_signed ((cF_Word_part x0 25 7 5) ||| (cF_Word_part x0 7 5 0)) 12)
set_option maxHeartbeats 4000000 in
set_option maxRecDepth 100000 in
theorem cc_LongForm_immediateOfStore (l : Launch) (D : va_G) (tc : Nat → ClassId) (tb : Nat → Nat) (z0 : Nat) (x0 : Int32) : Met l y_Long_immediateOfStore (wM y_Long_immediateOfStore b_Long_immediateOfStore 1 (some .int)) ({ frames := 1, cells := 0, slots := 0, locals := 23 }) (va_Pc [.int x0] (Pr D tc tb z0 [])) (vp_Si (fun r => r = (cF_LongForm_immediateOfStore x0))) 0 0 (fun _ => False) := by
  refine Met.ofW (cc := b_Long_immediateOfStore) (maxL := 1) (ret := (some .int)) (by decide) rfl ?_
  intro p e s m args below meth c s₁ B hml hv
  obtain ⟨rfl, hP, hK, hB⟩ := hv
  have hx := B.exec
  have hb := B.bytes
  have hr := B.returns
  have hts : ∀ w ∈ wALL, w.before _ s = true := fun w h => atoms_spec (ws := (wM y_Long_immediateOfStore b_Long_immediateOfStore 1 (some .int))) B.pre w (List.mem_cons_of_mem _ h)
  have hown : s.vm.findClass "StepMachine$LongForm" = some m.cls := findClass_of_methodNamed B.named
  have hlocks := B.notSynchronized
  have hl := lv_entry ([.int x0]) (n := 1) (Nat.le_of_ble_eq_true rfl)
  rw [lg_entry_eq]
  generalize (lg_sl ([.int x0]) ++ List.replicate (1 - (lg_sl ([.int x0])).length) Slot.unset).toArray = ls at hl ⊢
  have hl : lv_has ls 1 [(0, .int x0)] := hl
  refine lv_iload_n hx hb d_Long_immediateOfStore_0 rfl (lv_at hl 0 rfl) ?_
  refine lv_bipush (v := 25) hx hb d_Long_immediateOfStore_1 (by decide) ?_
  refine lv_bipush (v := 7) hx hb d_Long_immediateOfStore_3 (by decide) ?_
  refine lv_iconst (v := 5) hx hb d_Long_immediateOfStore_5 (by decide) ?_
  refine roSi (As := [.int x0, .int 25, .int 7, .int 5]) (rest := []) ⟨hx, hb, hml, hown, hts⟩ (cc_Word_part l D tc tb z0 x0 25 7 5) (va_cwS 4 hts (goodS a_425 a_364 a_9 a_365) rfl rfl rfl hs_Word_part ⟨Nat.le_of_ble_eq_true rfl, Nat.le_of_ble_eq_true rfl⟩) (hP.sub [] rfl) hK hB rfl hl.1 rfl (Nat.le_of_ble_eq_true rfl) d_Long_immediateOfStore_6 ⟨Nat.zero_le _, Nat.zero_le _⟩ ?_
  refine lv_iload_n hx hb d_Long_immediateOfStore_9 rfl (lv_at hl 0 rfl) ?_
  refine lv_bipush (v := 7) hx hb d_Long_immediateOfStore_10 (by decide) ?_
  refine lv_iconst (v := 5) hx hb d_Long_immediateOfStore_12 (by decide) ?_
  refine lv_iconst (v := 0) hx hb d_Long_immediateOfStore_13 (by decide) ?_
  refine roSi (As := [.int x0, .int 7, .int 5, .int 0]) (rest := [.int (cF_Word_part x0 25 7 5)]) ⟨hx, hb, hml, hown, hts⟩ (cc_Word_part l D tc tb z0 x0 7 5 0) (va_cwS 4 hts (goodS a_425 a_364 a_9 a_365) rfl rfl rfl hs_Word_part ⟨Nat.le_of_ble_eq_true rfl, Nat.le_of_ble_eq_true rfl⟩) (hP.sub [] rfl) hK hB rfl hl.1 rfl (Nat.le_of_ble_eq_true rfl) d_Long_immediateOfStore_14 ⟨Nat.zero_le _, Nat.zero_le _⟩ ?_
  refine lv_ior hx hb d_Long_immediateOfStore_17 ?_
  refine lv_bipush (v := 12) hx hb d_Long_immediateOfStore_18 (by decide) ?_
  refine roSi (As := [.int ((cF_Word_part x0 25 7 5) ||| (cF_Word_part x0 7 5 0)), .int 12]) (rest := []) ⟨hx, hb, hml, hown, hts⟩ (cc_Word_signed l D tc tb z0 ((cF_Word_part x0 25 7 5) ||| (cF_Word_part x0 7 5 0)) 12) (va_cwS 2 hts (goodS a_426 a_377 a_9 a_378) rfl rfl rfl hs_Word_signed ⟨Nat.le_of_ble_eq_true rfl, Nat.le_of_ble_eq_true rfl⟩) (hP.sub [] rfl) hK hB rfl hl.1 rfl (Nat.le_of_ble_eq_true rfl) d_Long_immediateOfStore_20 ⟨Nat.zero_le _, Nat.zero_le _⟩ ?_
  exact W.iret (v := (cF_Word_signed ((cF_Word_part x0 25 7 5) ||| (cF_Word_part x0 7 5 0)) 12)) hx hb hr (fun t ht hW => ⟨_, rfl, by rw [cF_LongForm_immediateOfStore], ht⟩) (fun q h => by cases h) d_Long_immediateOfStore_23
def cF_LongForm_readImmediate_1  (q_57 : Int32 × Int32 × Int32 × Int32 × Int32) : Int32 × Int32 × Int32 × Int32 × Int32 := (q_57.1, q_57.2.1, q_57.2.2.1, q_57.2.2.2.1, q_57.2.2.2.2)
def cF_LongForm_readImmediate_3  (q_57 : Int32 × Int32 × Int32 × Int32 × Int32) : Int32 × Int32 × Int32 × Int32 × Int32 := (q_57.1, q_57.2.1, q_57.2.2.1, q_57.2.2.2.1, q_57.2.2.2.2)
def cF_LongForm_readImmediate_2  (q_79 : Int32 × Int32 × Int32 × Int32 × Int32) : Int32 × Int32 × Int32 × Int32 × Int32 := (q_79.1, q_79.2.1, q_79.2.2.1, q_79.2.2.2.1, q_79.2.2.2.2)
def cF_LongForm_readImmediate (x0 : Int32) : Int32 × Int32 × Int32 × Int32 × Int32 := (if ((j_ushr x0 12) &&& 7) = 1 then (cF_LongForm_readImmediate_1 (cF_Word_is (cF_LongForm_kindOfShift ((j_ushr x0 12) &&& 7) (j_ushr x0 25)) ((j_ushr x0 7) &&& 31) ((j_ushr x0 15) &&& 31) 0 ((j_ushr x0 20) &&& 31))) else (if ((j_ushr x0 12) &&& 7) = 5 then (cF_LongForm_readImmediate_3 (cF_Word_is (cF_LongForm_kindOfShift ((j_ushr x0 12) &&& 7) (j_ushr x0 25)) ((j_ushr x0 7) &&& 31) ((j_ushr x0 15) &&& 31) 0 ((j_ushr x0 20) &&& 31))) else (cF_LongForm_readImmediate_2 (cF_Word_is (cF_LongForm_kindIn 3 ((j_ushr x0 12) &&& 7)) ((j_ushr x0 7) &&& 31) ((j_ushr x0 15) &&& 31) 0 (x0 >>> ((20 : Int32) &&& 31))))))
set_option maxHeartbeats 4000000 in
set_option maxRecDepth 100000 in
theorem cc_LongForm_readImmediate (l : Launch) (D : va_G) (tc : Nat → ClassId) (tb : Nat → Nat) (z0 : Nat) (sz : Nat) (a_w : Nat) (w_n : Int32) (w_k : Int32) (w_d : Int32) (w_a : Int32) (w_b : Int32) (w_i : Int32) (x0 : Int32) : Met l y_Long_readImmediate (wM y_Long_readImmediate b_Long_readImmediate 5 none) ({ frames := 1, cells := 0, slots := 0, locals := 25 }) (va_Pc [.int x0, .ref a_w] (Pw D tc tb z0 [(a_w, .inr (4, [.int w_n, .int w_k, .int w_d, .int w_a, .int w_b, .int w_i]))] sz)) (va_Qv (fun u : Int32 × Int32 × Int32 × Int32 × Int32 => u = (cF_LongForm_readImmediate x0)) (Bw D tc (va_A [(a_w, .inr (4, [.int w_n, .int w_k, .int w_d, .int w_a, .int w_b, .int w_i]))] sz) (fun u => [(a_w, .inr (4, [.int w_n, .int u.1, .int u.2.1, .int u.2.2.1, .int u.2.2.2.1, .int u.2.2.2.2]))])) (va_A [(a_w, .inr (4, [.int w_n, .int w_k, .int w_d, .int w_a, .int w_b, .int w_i]))] sz)) 0 0 (va_A [(a_w, .inr (4, [.int w_n, .int w_k, .int w_d, .int w_a, .int w_b, .int w_i]))] sz) := by
  refine Met.ofW (cc := b_Long_readImmediate) (maxL := 5) (ret := none) (by decide) rfl ?_
  intro p e s m args below meth c s₁ B hml hv
  obtain ⟨rfl, hsz, hP, hK, hB, hD0, hZ0⟩ := hv
  have hx := B.exec
  have hb := B.bytes
  have hr := B.returns
  have hts : ∀ w ∈ wALL, w.before _ s = true := fun w h => atoms_spec (ws := (wM y_Long_readImmediate b_Long_readImmediate 5 none)) B.pre w (List.mem_cons_of_mem _ h)
  have hown : s.vm.findClass "StepMachine$LongForm" = some m.cls := findClass_of_methodNamed B.named
  have hlocks := B.notSynchronized
  subst hsz
  have hD := hD0.self (sz := s.heap.size)
  generalize hAe : va_A [(a_w, .inr (4, [.int w_n, .int w_k, .int w_d, .int w_a, .int w_b, .int w_i]))] s.heap.size = A at hD ⊢
  have hZ : ∀ q : Nat, A q → z0 ≤ q := by rw [← hAe]; exact hZ0
  have hA : ∀ q : Nat, s.heap.size ≤ q → A q := fun q h => by rw [← hAe]; exact Or.inr h
  have hS : va_S A s.heap s.heap [] := va_S.rf
  have hl := lv_entry ([.int x0, .ref a_w]) (n := 5) (Nat.le_of_ble_eq_true rfl)
  rw [lg_entry_eq]
  generalize (lg_sl ([.int x0, .ref a_w]) ++ List.replicate (5 - (lg_sl ([.int x0, .ref a_w])).length) Slot.unset).toArray = ls at hl ⊢
  have hl : lv_has ls 5 [(0, .int x0), (1, .ref a_w)] := hl
  refine lv_iload_n hx hb d_Long_readImmediate_0 rfl (lv_at hl 0 rfl) ?_
  refine lv_bipush (v := 7) hx hb d_Long_readImmediate_1 (by decide) ?_
  refine lv_iushr (v := (j_ushr x0 7)) hx hb d_Long_readImmediate_3 rfl ?_
  refine lv_bipush (v := 31) hx hb d_Long_readImmediate_4 (by decide) ?_
  refine lv_iand hx hb d_Long_readImmediate_6 ?_
  refine lv_istore_n (lv' := [(2, .int ((j_ushr x0 7) &&& 31)), (0, .int x0), (1, .ref a_w)]) hx hb d_Long_readImmediate_7 rfl hl (by decide) rfl (fun ls hl => ?_)
  refine lv_iload_n hx hb d_Long_readImmediate_8 rfl (lv_at hl 1 rfl) ?_
  refine lv_bipush (v := 15) hx hb d_Long_readImmediate_9 (by decide) ?_
  refine lv_iushr (v := (j_ushr x0 15)) hx hb d_Long_readImmediate_11 rfl ?_
  refine lv_bipush (v := 31) hx hb d_Long_readImmediate_12 (by decide) ?_
  refine lv_iand hx hb d_Long_readImmediate_14 ?_
  refine lv_istore_n (lv' := [(3, .int ((j_ushr x0 15) &&& 31)), (2, .int ((j_ushr x0 7) &&& 31)), (0, .int x0), (1, .ref a_w)]) hx hb d_Long_readImmediate_15 rfl hl (by decide) rfl (fun ls hl => ?_)
  refine lv_iload_n hx hb d_Long_readImmediate_16 rfl (lv_at hl 2 rfl) ?_
  refine lv_bipush (v := 12) hx hb d_Long_readImmediate_17 (by decide) ?_
  refine lv_iushr (v := (j_ushr x0 12)) hx hb d_Long_readImmediate_19 rfl ?_
  refine lv_bipush (v := 7) hx hb d_Long_readImmediate_20 (by decide) ?_
  refine lv_iand hx hb d_Long_readImmediate_22 ?_
  refine lv_istore (lv' := [(4, .int ((j_ushr x0 12) &&& 7)), (3, .int ((j_ushr x0 15) &&& 31)), (2, .int ((j_ushr x0 7) &&& 31)), (0, .int x0), (1, .ref a_w)]) hx hb d_Long_readImmediate_23 hl (by decide) rfl (fun ls hl => ?_)
  refine lv_iload hx hb d_Long_readImmediate_25 (lv_at hl 0 rfl) ?_
  refine lv_iconst (v := 1) hx hb d_Long_readImmediate_27 (by decide) ?_
  refine lv_icmp_eq (tgt := 37) hx hb d_Long_readImmediate_28 (by decide) (fun c_28 => ?_) (fun c_28 => ?_)
  · skip
    refine lv_aload_n hx hb d_Long_readImmediate_37 rfl (lv_at hl 4 rfl) ?_
    refine lv_iload hx hb d_Long_readImmediate_38 (lv_at hl 0 rfl) ?_
    refine lv_iload_n hx hb d_Long_readImmediate_40 rfl (lv_at hl 3 rfl) ?_
    refine lv_bipush (v := 25) hx hb d_Long_readImmediate_41 (by decide) ?_
    refine lv_iushr (v := (j_ushr x0 25)) hx hb d_Long_readImmediate_43 rfl ?_
    refine roSi (As := [.int ((j_ushr x0 12) &&& 7), .int (j_ushr x0 25)]) (rest := [.ref a_w]) ⟨hx, hb, hml, hown, hts⟩ (cc_LongForm_kindOfShift l D tc tb z0 ((j_ushr x0 12) &&& 7) (j_ushr x0 25)) (va_cwS 2 hts (goodS a_442 a_443 a_12 a_444) rfl rfl rfl hs_Long_kindOfShift ⟨Nat.le_of_ble_eq_true rfl, Nat.le_of_ble_eq_true rfl⟩) (hP.sub [] rfl) hK (hB.kept hS hZ) rfl hl.1 rfl (Nat.le_of_ble_eq_true rfl) d_Long_readImmediate_44 ⟨Nat.zero_le _, Nat.zero_le _⟩ ?_
    refine lv_iload_n hx hb d_Long_readImmediate_47 rfl (lv_at hl 2 rfl) ?_
    refine lv_iload_n hx hb d_Long_readImmediate_48 rfl (lv_at hl 1 rfl) ?_
    refine lv_iconst (v := 0) hx hb d_Long_readImmediate_49 (by decide) ?_
    refine lv_iload_n hx hb d_Long_readImmediate_50 rfl (lv_at hl 3 rfl) ?_
    refine lv_bipush (v := 20) hx hb d_Long_readImmediate_51 (by decide) ?_
    refine lv_iushr (v := (j_ushr x0 20)) hx hb d_Long_readImmediate_53 rfl ?_
    refine lv_bipush (v := 31) hx hb d_Long_readImmediate_54 (by decide) ?_
    refine lv_iand hx hb d_Long_readImmediate_56 ?_
    obtain ⟨q_57, e_57⟩ : ∃ z, z = (cF_Word_is (cF_LongForm_kindOfShift ((j_ushr x0 12) &&& 7) (j_ushr x0 25)) ((j_ushr x0 7) &&& 31) ((j_ushr x0 15) &&& 31) 0 ((j_ushr x0 20) &&& 31)) := ⟨_, rfl⟩
    refine wVv (As := [.int (cF_LongForm_kindOfShift ((j_ushr x0 12) &&& 7) (j_ushr x0 25)), .int ((j_ushr x0 7) &&& 31), .int ((j_ushr x0 15) &&& 31), .int 0, .int ((j_ushr x0 20) &&& 31)]) (rest := []) e_57 ⟨hx, hb, hml, hown, hts⟩ (cc_Word_is l D tc tb z0 _ a_w w_n w_k w_d w_a w_b w_i (cF_LongForm_kindOfShift ((j_ushr x0 12) &&& 7) (j_ushr x0 25)) ((j_ushr x0 7) &&& 31) ((j_ushr x0 15) &&& 31) 0 ((j_ushr x0 20) &&& 31)) (cwV 5 hts (goodV a_421 a_357 a_358 a_9 a_359) rfl rfl rfl hv_Word_is ⟨Nat.le_of_ble_eq_true rfl, Nat.le_of_ble_eq_true rfl⟩) hP hD hS hA hZ hK hB [0] rfl (by decide) (fun _ => rfl) rfl rfl rfl hl.1 rfl (Nat.le_of_ble_eq_true rfl) d_Long_readImmediate_57 ⟨Nat.zero_le _, Nat.zero_le _⟩ (fun H locs hP hD hS => ?_)
    have hP : va_P D vwCl [(a_w, .inr (4, [.int w_n, .int q_57.1, .int q_57.2.1, .int q_57.2.2.1, .int q_57.2.2.2.1, .int q_57.2.2.2.2]))] H := hP
    have hD : va_D A [(a_w, .inr (4, [.int w_n, .int q_57.1, .int q_57.2.1, .int q_57.2.2.1, .int q_57.2.2.2.1, .int q_57.2.2.2.2]))] := hD
    refine lv_goto (tgt := 82) hx hb d_Long_readImmediate_60 (by decide) ?_
    exact W.vret hx hb hr (fun t ht hW => ⟨⟨(q_57.1, q_57.2.1, q_57.2.2.1, q_57.2.2.2.1, q_57.2.2.2.2), rfl, by rw [cF_LongForm_readImmediate, if_pos c_28, ← e_57, cF_LongForm_readImmediate_1], by rw [ht]; exact hP, va_K.moved hW.alike hK, hD⟩, hS.F ht⟩) hS.2.2 d_Long_readImmediate_82
  · skip
    refine lv_iload hx hb d_Long_readImmediate_31 (lv_at hl 0 rfl) ?_
    refine lv_iconst (v := 5) hx hb d_Long_readImmediate_33 (by decide) ?_
    refine lv_icmp_ne (tgt := 63) hx hb d_Long_readImmediate_34 (by decide) (fun c_34 => ?_) (fun c_34 => ?_)
    · skip
      refine lv_aload_n hx hb d_Long_readImmediate_63 rfl (lv_at hl 4 rfl) ?_
      refine va_gets hx hb (hB 3 (by decide)).1 (hS.wk hZ) hown (hts _ a_445) (fun _ h9 => h9) d_Long_readImmediate_64 ?_
      refine lv_iload hx hb d_Long_readImmediate_67 (lv_at hl 0 rfl) ?_
      refine roSi (As := [.ref (tb 3), .int ((j_ushr x0 12) &&& 7)]) (rest := [.ref a_w]) ⟨hx, hb, hml, hown, hts⟩ (cc_LongForm_kindIn l D tc tb z0 ((j_ushr x0 12) &&& 7) 3 (by decide)) (va_cwS 2 hts (goodS a_428 a_429 a_12 a_430) rfl rfl rfl hs_Long_kindIn ⟨Nat.le_of_ble_eq_true rfl, Nat.le_of_ble_eq_true rfl⟩) (hP.sub [] rfl) hK (hB.kept hS hZ) rfl hl.1 rfl (Nat.le_of_ble_eq_true rfl) d_Long_readImmediate_69 ⟨Nat.zero_le _, Nat.zero_le _⟩ ?_
      refine lv_iload_n hx hb d_Long_readImmediate_72 rfl (lv_at hl 2 rfl) ?_
      refine lv_iload_n hx hb d_Long_readImmediate_73 rfl (lv_at hl 1 rfl) ?_
      refine lv_iconst (v := 0) hx hb d_Long_readImmediate_74 (by decide) ?_
      refine lv_iload_n hx hb d_Long_readImmediate_75 rfl (lv_at hl 3 rfl) ?_
      refine lv_bipush (v := 20) hx hb d_Long_readImmediate_76 (by decide) ?_
      refine lv_ishr hx hb d_Long_readImmediate_78 ?_
      obtain ⟨q_79, e_79⟩ : ∃ z, z = (cF_Word_is (cF_LongForm_kindIn 3 ((j_ushr x0 12) &&& 7)) ((j_ushr x0 7) &&& 31) ((j_ushr x0 15) &&& 31) 0 (x0 >>> ((20 : Int32) &&& 31))) := ⟨_, rfl⟩
      refine wVv (As := [.int (cF_LongForm_kindIn 3 ((j_ushr x0 12) &&& 7)), .int ((j_ushr x0 7) &&& 31), .int ((j_ushr x0 15) &&& 31), .int 0, .int (x0 >>> ((20 : Int32) &&& 31))]) (rest := []) e_79 ⟨hx, hb, hml, hown, hts⟩ (cc_Word_is l D tc tb z0 _ a_w w_n w_k w_d w_a w_b w_i (cF_LongForm_kindIn 3 ((j_ushr x0 12) &&& 7)) ((j_ushr x0 7) &&& 31) ((j_ushr x0 15) &&& 31) 0 (x0 >>> ((20 : Int32) &&& 31))) (cwV 5 hts (goodV a_421 a_357 a_358 a_9 a_359) rfl rfl rfl hv_Word_is ⟨Nat.le_of_ble_eq_true rfl, Nat.le_of_ble_eq_true rfl⟩) hP hD hS hA hZ hK hB [0] rfl (by decide) (fun _ => rfl) rfl rfl rfl hl.1 rfl (Nat.le_of_ble_eq_true rfl) d_Long_readImmediate_79 ⟨Nat.zero_le _, Nat.zero_le _⟩ (fun H locs hP hD hS => ?_)
      have hP : va_P D vwCl [(a_w, .inr (4, [.int w_n, .int q_79.1, .int q_79.2.1, .int q_79.2.2.1, .int q_79.2.2.2.1, .int q_79.2.2.2.2]))] H := hP
      have hD : va_D A [(a_w, .inr (4, [.int w_n, .int q_79.1, .int q_79.2.1, .int q_79.2.2.1, .int q_79.2.2.2.1, .int q_79.2.2.2.2]))] := hD
      exact W.vret hx hb hr (fun t ht hW => ⟨⟨(q_79.1, q_79.2.1, q_79.2.2.1, q_79.2.2.2.1, q_79.2.2.2.2), rfl, by rw [cF_LongForm_readImmediate, if_neg c_28, if_neg c_34, ← e_79, cF_LongForm_readImmediate_2], by rw [ht]; exact hP, va_K.moved hW.alike hK, hD⟩, hS.F ht⟩) hS.2.2 d_Long_readImmediate_82
    · skip
      refine lv_aload_n hx hb d_Long_readImmediate_37 rfl (lv_at hl 4 rfl) ?_
      refine lv_iload hx hb d_Long_readImmediate_38 (lv_at hl 0 rfl) ?_
      refine lv_iload_n hx hb d_Long_readImmediate_40 rfl (lv_at hl 3 rfl) ?_
      refine lv_bipush (v := 25) hx hb d_Long_readImmediate_41 (by decide) ?_
      refine lv_iushr (v := (j_ushr x0 25)) hx hb d_Long_readImmediate_43 rfl ?_
      refine roSi (As := [.int ((j_ushr x0 12) &&& 7), .int (j_ushr x0 25)]) (rest := [.ref a_w]) ⟨hx, hb, hml, hown, hts⟩ (cc_LongForm_kindOfShift l D tc tb z0 ((j_ushr x0 12) &&& 7) (j_ushr x0 25)) (va_cwS 2 hts (goodS a_442 a_443 a_12 a_444) rfl rfl rfl hs_Long_kindOfShift ⟨Nat.le_of_ble_eq_true rfl, Nat.le_of_ble_eq_true rfl⟩) (hP.sub [] rfl) hK (hB.kept hS hZ) rfl hl.1 rfl (Nat.le_of_ble_eq_true rfl) d_Long_readImmediate_44 ⟨Nat.zero_le _, Nat.zero_le _⟩ ?_
      refine lv_iload_n hx hb d_Long_readImmediate_47 rfl (lv_at hl 2 rfl) ?_
      refine lv_iload_n hx hb d_Long_readImmediate_48 rfl (lv_at hl 1 rfl) ?_
      refine lv_iconst (v := 0) hx hb d_Long_readImmediate_49 (by decide) ?_
      refine lv_iload_n hx hb d_Long_readImmediate_50 rfl (lv_at hl 3 rfl) ?_
      refine lv_bipush (v := 20) hx hb d_Long_readImmediate_51 (by decide) ?_
      refine lv_iushr (v := (j_ushr x0 20)) hx hb d_Long_readImmediate_53 rfl ?_
      refine lv_bipush (v := 31) hx hb d_Long_readImmediate_54 (by decide) ?_
      refine lv_iand hx hb d_Long_readImmediate_56 ?_
      obtain ⟨q_57, e_57⟩ : ∃ z, z = (cF_Word_is (cF_LongForm_kindOfShift ((j_ushr x0 12) &&& 7) (j_ushr x0 25)) ((j_ushr x0 7) &&& 31) ((j_ushr x0 15) &&& 31) 0 ((j_ushr x0 20) &&& 31)) := ⟨_, rfl⟩
      refine wVv (As := [.int (cF_LongForm_kindOfShift ((j_ushr x0 12) &&& 7) (j_ushr x0 25)), .int ((j_ushr x0 7) &&& 31), .int ((j_ushr x0 15) &&& 31), .int 0, .int ((j_ushr x0 20) &&& 31)]) (rest := []) e_57 ⟨hx, hb, hml, hown, hts⟩ (cc_Word_is l D tc tb z0 _ a_w w_n w_k w_d w_a w_b w_i (cF_LongForm_kindOfShift ((j_ushr x0 12) &&& 7) (j_ushr x0 25)) ((j_ushr x0 7) &&& 31) ((j_ushr x0 15) &&& 31) 0 ((j_ushr x0 20) &&& 31)) (cwV 5 hts (goodV a_421 a_357 a_358 a_9 a_359) rfl rfl rfl hv_Word_is ⟨Nat.le_of_ble_eq_true rfl, Nat.le_of_ble_eq_true rfl⟩) hP hD hS hA hZ hK hB [0] rfl (by decide) (fun _ => rfl) rfl rfl rfl hl.1 rfl (Nat.le_of_ble_eq_true rfl) d_Long_readImmediate_57 ⟨Nat.zero_le _, Nat.zero_le _⟩ (fun H locs hP hD hS => ?_)
      have hP : va_P D vwCl [(a_w, .inr (4, [.int w_n, .int q_57.1, .int q_57.2.1, .int q_57.2.2.1, .int q_57.2.2.2.1, .int q_57.2.2.2.2]))] H := hP
      have hD : va_D A [(a_w, .inr (4, [.int w_n, .int q_57.1, .int q_57.2.1, .int q_57.2.2.1, .int q_57.2.2.2.1, .int q_57.2.2.2.2]))] := hD
      refine lv_goto (tgt := 82) hx hb d_Long_readImmediate_60 (by decide) ?_
      exact W.vret hx hb hr (fun t ht hW => ⟨⟨(q_57.1, q_57.2.1, q_57.2.2.1, q_57.2.2.2.1, q_57.2.2.2.2), rfl, by rw [cF_LongForm_readImmediate, if_neg c_28, if_pos c_34, ← e_57, cF_LongForm_readImmediate_3], by rw [ht]; exact hP, va_K.moved hW.alike hK, hD⟩, hS.F ht⟩) hS.2.2 d_Long_readImmediate_82
def cF_LongForm_read_2 (q_2 : Int32 × Int32 × Int32 × Int32 × Int32 × Int32) (q_236 : Int32 × Int32 × Int32 × Int32 × Int32) : Int32 × Int32 × Int32 × Int32 × Int32 × Int32 := (q_2.1, q_236.1, q_236.2.1, q_236.2.2.1, q_236.2.2.2.1, q_236.2.2.2.2)
def cF_LongForm_read_3 (q_2 : Int32 × Int32 × Int32 × Int32 × Int32 × Int32) (q_267 : Int32 × Int32 × Int32 × Int32 × Int32) : Int32 × Int32 × Int32 × Int32 × Int32 × Int32 := (q_2.1, q_267.1, q_267.2.1, q_267.2.2.1, q_267.2.2.2.1, q_267.2.2.2.2)
def cF_LongForm_read_4 (q_2 : Int32 × Int32 × Int32 × Int32 × Int32 × Int32) (q_156 : Int32 × Int32 × Int32 × Int32 × Int32) : Int32 × Int32 × Int32 × Int32 × Int32 × Int32 := (q_2.1, q_156.1, q_156.2.1, q_156.2.2.1, q_156.2.2.2.1, q_156.2.2.2.2)
def cF_LongForm_read_5 (q_2 : Int32 × Int32 × Int32 × Int32 × Int32 × Int32) (q_259 : Int32 × Int32 × Int32 × Int32 × Int32) : Int32 × Int32 × Int32 × Int32 × Int32 × Int32 := (q_2.1, q_259.1, q_259.2.1, q_259.2.2.1, q_259.2.2.2.1, q_259.2.2.2.2)
def cF_LongForm_read_6 (q_2 : Int32 × Int32 × Int32 × Int32 × Int32 × Int32) (q_288 : Int32 × Int32 × Int32 × Int32 × Int32) : Int32 × Int32 × Int32 × Int32 × Int32 × Int32 := (q_2.1, q_288.1, q_288.2.1, q_288.2.2.1, q_288.2.2.2.1, q_288.2.2.2.2)
def cF_LongForm_read_7 (q_2 : Int32 × Int32 × Int32 × Int32 × Int32 × Int32) (q_141 : Int32 × Int32 × Int32 × Int32 × Int32) : Int32 × Int32 × Int32 × Int32 × Int32 × Int32 := (q_2.1, q_141.1, q_141.2.1, q_141.2.2.1, q_141.2.2.2.1, q_141.2.2.2.2)
def cF_LongForm_read_8 (q_2 : Int32 × Int32 × Int32 × Int32 × Int32 × Int32) (q_216 : Int32 × Int32 × Int32 × Int32 × Int32) : Int32 × Int32 × Int32 × Int32 × Int32 × Int32 := (q_2.1, q_216.1, q_216.2.1, q_216.2.2.1, q_216.2.2.2.1, q_216.2.2.2.2)
def cF_LongForm_read_10 (q_2 : Int32 × Int32 × Int32 × Int32 × Int32 × Int32) (q_193 : Int32 × Int32 × Int32 × Int32 × Int32) : Int32 × Int32 × Int32 × Int32 × Int32 × Int32 := (q_2.1, q_193.1, q_193.2.1, q_193.2.2.1, q_193.2.2.2.1, q_193.2.2.2.2)
def cF_LongForm_read_9 (q_2 : Int32 × Int32 × Int32 × Int32 × Int32 × Int32) (q_193 : Int32 × Int32 × Int32 × Int32 × Int32) : Int32 × Int32 × Int32 × Int32 × Int32 × Int32 := (q_2.1, q_193.1, q_193.2.1, q_193.2.2.1, q_193.2.2.2.1, q_193.2.2.2.2)
def cF_LongForm_read_11 (q_2 : Int32 × Int32 × Int32 × Int32 × Int32 × Int32) (q_171 : Int32 × Int32 × Int32 × Int32 × Int32) : Int32 × Int32 × Int32 × Int32 × Int32 × Int32 := (q_2.1, q_171.1, q_171.2.1, q_171.2.2.1, q_171.2.2.2.1, q_171.2.2.2.2)
def cF_LongForm_read_12 (q_2 : Int32 × Int32 × Int32 × Int32 × Int32 × Int32) (q_303 : Int32 × Int32 × Int32 × Int32 × Int32) : Int32 × Int32 × Int32 × Int32 × Int32 × Int32 := (q_2.1, q_303.1, q_303.2.1, q_303.2.2.1, q_303.2.2.2.1, q_303.2.2.2.2)
def cF_LongForm_read_1 (x0 : Int32) (q_2 : Int32 × Int32 × Int32 × Int32 × Int32 × Int32) : Int32 × Int32 × Int32 × Int32 × Int32 × Int32 := (if (x0 &&& 127) = 3 then (cF_LongForm_read_2 q_2 (cF_Word_is (cF_LongForm_kindIn 1 ((j_ushr x0 12) &&& 7)) ((j_ushr x0 7) &&& 31) ((j_ushr x0 15) &&& 31) 0 (x0 >>> ((20 : Int32) &&& 31)))) else (if (x0 &&& 127) = 19 then (cF_LongForm_read_3 q_2 (cF_LongForm_readImmediate x0)) else (if (x0 &&& 127) = 23 then (cF_LongForm_read_4 q_2 (cF_Word_is 1 ((j_ushr x0 7) &&& 31) 0 0 (j_ushr x0 12))) else (if (x0 &&& 127) = 35 then (cF_LongForm_read_5 q_2 (cF_Word_is (cF_LongForm_kindIn 2 ((j_ushr x0 12) &&& 7)) 0 ((j_ushr x0 15) &&& 31) ((j_ushr x0 20) &&& 31) (cF_LongForm_immediateOfStore x0))) else (if (x0 &&& 127) = 51 then (cF_LongForm_read_6 q_2 (cF_Word_is (cF_LongForm_kindOfPair ((j_ushr x0 12) &&& 7) (j_ushr x0 25)) ((j_ushr x0 7) &&& 31) ((j_ushr x0 15) &&& 31) ((j_ushr x0 20) &&& 31) 0)) else (if (x0 &&& 127) = 55 then (cF_LongForm_read_7 q_2 (cF_Word_is 0 ((j_ushr x0 7) &&& 31) 0 0 (j_ushr x0 12))) else (if (x0 &&& 127) = 99 then (cF_LongForm_read_8 q_2 (cF_Word_is (cF_LongForm_kindIn 0 ((j_ushr x0 12) &&& 7)) 0 ((j_ushr x0 15) &&& 31) ((j_ushr x0 20) &&& 31) (cF_LongForm_immediateOfBranch x0))) else (if (x0 &&& 127) = 103 then (if ((j_ushr x0 12) &&& 7) = 0 then (cF_LongForm_read_10 q_2 (cF_Word_is 3 ((j_ushr x0 7) &&& 31) ((j_ushr x0 15) &&& 31) 0 (x0 >>> ((20 : Int32) &&& 31)))) else (cF_LongForm_read_9 q_2 (cF_Word_is (-1) ((j_ushr x0 7) &&& 31) ((j_ushr x0 15) &&& 31) 0 (x0 >>> ((20 : Int32) &&& 31))))) else (if (x0 &&& 127) = 111 then (cF_LongForm_read_11 q_2 (cF_Word_is 2 ((j_ushr x0 7) &&& 31) 0 0 (cF_LongForm_immediateOfJump x0))) else (cF_LongForm_read_12 q_2 (cF_Word_is (cF_LongForm_kindOfWhole x0) 0 0 0 0)))))))))))
def cF_LongForm_read (x0 : Int32) : Int32 × Int32 × Int32 × Int32 × Int32 × Int32 := (cF_LongForm_read_1 x0 (cF_Word_clear 4))
set_option maxHeartbeats 4000000 in
set_option maxRecDepth 100000 in
theorem cc_LongForm_read (l : Launch) (D : va_G) (tc : Nat → ClassId) (tb : Nat → Nat) (z0 : Nat) (sz : Nat) (a_w : Nat) (w_n : Int32) (w_k : Int32) (w_d : Int32) (w_a : Int32) (w_b : Int32) (w_i : Int32) (x0 : Int32) : Met l y_Long_read (wM y_Long_read b_Long_read 7 none) ({ frames := 2, cells := 0, slots := 0, locals := 49 }) (va_Pc [.int x0, .ref a_w] (Pw D tc tb z0 [(a_w, .inr (4, [.int w_n, .int w_k, .int w_d, .int w_a, .int w_b, .int w_i]))] sz)) (va_Qv (fun u : Int32 × Int32 × Int32 × Int32 × Int32 × Int32 => u = (cF_LongForm_read x0)) (Bw D tc (va_A [(a_w, .inr (4, [.int w_n, .int w_k, .int w_d, .int w_a, .int w_b, .int w_i]))] sz) (fun u => [(a_w, .inr (4, [.int u.1, .int u.2.1, .int u.2.2.1, .int u.2.2.2.1, .int u.2.2.2.2.1, .int u.2.2.2.2.2]))])) (va_A [(a_w, .inr (4, [.int w_n, .int w_k, .int w_d, .int w_a, .int w_b, .int w_i]))] sz)) 0 0 (va_A [(a_w, .inr (4, [.int w_n, .int w_k, .int w_d, .int w_a, .int w_b, .int w_i]))] sz) := by
  refine Met.ofW (cc := b_Long_read) (maxL := 7) (ret := none) (by decide) rfl ?_
  intro p e s m args below meth c s₁ B hml hv
  obtain ⟨rfl, hsz, hP, hK, hB, hD0, hZ0⟩ := hv
  have hx := B.exec
  have hb := B.bytes
  have hr := B.returns
  have hts : ∀ w ∈ wALL, w.before _ s = true := fun w h => atoms_spec (ws := (wM y_Long_read b_Long_read 7 none)) B.pre w (List.mem_cons_of_mem _ h)
  have hown : s.vm.findClass "StepMachine$LongForm" = some m.cls := findClass_of_methodNamed B.named
  have hlocks := B.notSynchronized
  subst hsz
  have hD := hD0.self (sz := s.heap.size)
  generalize hAe : va_A [(a_w, .inr (4, [.int w_n, .int w_k, .int w_d, .int w_a, .int w_b, .int w_i]))] s.heap.size = A at hD ⊢
  have hZ : ∀ q : Nat, A q → z0 ≤ q := by rw [← hAe]; exact hZ0
  have hA : ∀ q : Nat, s.heap.size ≤ q → A q := fun q h => by rw [← hAe]; exact Or.inr h
  have hS : va_S A s.heap s.heap [] := va_S.rf
  have hl := lv_entry ([.int x0, .ref a_w]) (n := 7) (Nat.le_of_ble_eq_true rfl)
  rw [lg_entry_eq]
  generalize (lg_sl ([.int x0, .ref a_w]) ++ List.replicate (7 - (lg_sl ([.int x0, .ref a_w])).length) Slot.unset).toArray = ls at hl ⊢
  have hl : lv_has ls 7 [(0, .int x0), (1, .ref a_w)] := hl
  refine lv_aload_n hx hb d_Long_read_0 rfl (lv_at hl 1 rfl) ?_
  refine lv_iconst (v := 4) hx hb d_Long_read_1 (by decide) ?_
  obtain ⟨q_2, e_2⟩ : ∃ z, z = (cF_Word_clear 4) := ⟨_, rfl⟩
  refine wVv (As := [.int 4]) (rest := []) e_2 ⟨hx, hb, hml, hown, hts⟩ (cc_Word_clear l D tc tb z0 _ a_w w_n w_k w_d w_a w_b w_i 4) (cwV 1 hts (goodV a_420 a_353 a_354 a_9 a_355) rfl rfl rfl hv_Word_clear ⟨Nat.le_of_ble_eq_true rfl, Nat.le_of_ble_eq_true rfl⟩) hP hD hS hA hZ hK hB [0] rfl (by decide) (fun _ => rfl) rfl rfl rfl hl.1 rfl (Nat.le_of_ble_eq_true rfl) d_Long_read_2 ⟨Nat.zero_le _, Nat.zero_le _⟩ (fun H locs hP hD hS => ?_)
  have hP : va_P D vwCl [(a_w, .inr (4, [.int q_2.1, .int q_2.2.1, .int q_2.2.2.1, .int q_2.2.2.2.1, .int q_2.2.2.2.2.1, .int q_2.2.2.2.2.2]))] H := hP
  have hD : va_D A [(a_w, .inr (4, [.int q_2.1, .int q_2.2.1, .int q_2.2.2.1, .int q_2.2.2.2.1, .int q_2.2.2.2.2.1, .int q_2.2.2.2.2.2]))] := hD
  refine lv_iload_n hx hb d_Long_read_5 rfl (lv_at hl 0 rfl) ?_
  refine lv_bipush (v := 7) hx hb d_Long_read_6 (by decide) ?_
  refine lv_iushr (v := (j_ushr x0 7)) hx hb d_Long_read_8 rfl ?_
  refine lv_bipush (v := 31) hx hb d_Long_read_9 (by decide) ?_
  refine lv_iand hx hb d_Long_read_11 ?_
  refine lv_istore_n (lv' := [(2, .int ((j_ushr x0 7) &&& 31)), (0, .int x0), (1, .ref a_w)]) hx hb d_Long_read_12 rfl hl (by decide) rfl (fun ls hl => ?_)
  refine lv_iload_n hx hb d_Long_read_13 rfl (lv_at hl 1 rfl) ?_
  refine lv_bipush (v := 15) hx hb d_Long_read_14 (by decide) ?_
  refine lv_iushr (v := (j_ushr x0 15)) hx hb d_Long_read_16 rfl ?_
  refine lv_bipush (v := 31) hx hb d_Long_read_17 (by decide) ?_
  refine lv_iand hx hb d_Long_read_19 ?_
  refine lv_istore_n (lv' := [(3, .int ((j_ushr x0 15) &&& 31)), (2, .int ((j_ushr x0 7) &&& 31)), (0, .int x0), (1, .ref a_w)]) hx hb d_Long_read_20 rfl hl (by decide) rfl (fun ls hl => ?_)
  refine lv_iload_n hx hb d_Long_read_21 rfl (lv_at hl 2 rfl) ?_
  refine lv_bipush (v := 20) hx hb d_Long_read_22 (by decide) ?_
  refine lv_iushr (v := (j_ushr x0 20)) hx hb d_Long_read_24 rfl ?_
  refine lv_bipush (v := 31) hx hb d_Long_read_25 (by decide) ?_
  refine lv_iand hx hb d_Long_read_27 ?_
  refine lv_istore (lv' := [(4, .int ((j_ushr x0 20) &&& 31)), (3, .int ((j_ushr x0 15) &&& 31)), (2, .int ((j_ushr x0 7) &&& 31)), (0, .int x0), (1, .ref a_w)]) hx hb d_Long_read_28 hl (by decide) rfl (fun ls hl => ?_)
  refine lv_iload_n hx hb d_Long_read_30 rfl (lv_at hl 3 rfl) ?_
  refine lv_bipush (v := 12) hx hb d_Long_read_31 (by decide) ?_
  refine lv_iushr (v := (j_ushr x0 12)) hx hb d_Long_read_33 rfl ?_
  refine lv_bipush (v := 7) hx hb d_Long_read_34 (by decide) ?_
  refine lv_iand hx hb d_Long_read_36 ?_
  refine lv_istore (lv' := [(5, .int ((j_ushr x0 12) &&& 7)), (4, .int ((j_ushr x0 20) &&& 31)), (3, .int ((j_ushr x0 15) &&& 31)), (2, .int ((j_ushr x0 7) &&& 31)), (0, .int x0), (1, .ref a_w)]) hx hb d_Long_read_37 hl (by decide) rfl (fun ls hl => ?_)
  refine lv_iload_n hx hb d_Long_read_39 rfl (lv_at hl 4 rfl) ?_
  refine lv_bipush (v := 20) hx hb d_Long_read_40 (by decide) ?_
  refine lv_ishr hx hb d_Long_read_42 ?_
  refine lv_istore (lv' := [(6, .int (x0 >>> ((20 : Int32) &&& 31))), (5, .int ((j_ushr x0 12) &&& 7)), (4, .int ((j_ushr x0 20) &&& 31)), (3, .int ((j_ushr x0 15) &&& 31)), (2, .int ((j_ushr x0 7) &&& 31)), (0, .int x0), (1, .ref a_w)]) hx hb d_Long_read_43 hl (by decide) rfl (fun ls hl => ?_)
  refine lv_iload_n hx hb d_Long_read_45 rfl (lv_at hl 5 rfl) ?_
  refine lv_bipush (v := 127) hx hb d_Long_read_46 (by decide) ?_
  refine lv_iand hx hb d_Long_read_48 ?_
  by_cases c_49_0 : (x0 &&& 127) = 3
  · skip
    refine lv_lookup (off := 173) (tgt := 222) hx hb d_Long_read_49 (by decide) (by rw [c_49_0] <;> rfl) (by decide) ?_
    refine lv_aload_n hx hb d_Long_read_222 rfl (lv_at hl 6 rfl) ?_
    refine va_gets hx hb (hB 1 (by decide)).1 (hS.wk hZ) hown (hts _ a_434) (fun _ h9 => h9) d_Long_read_223 ?_
    refine lv_iload hx hb d_Long_read_226 (lv_at hl 1 rfl) ?_
    refine roSi (As := [.ref (tb 1), .int ((j_ushr x0 12) &&& 7)]) (rest := [.ref a_w]) ⟨hx, hb, hml, hown, hts⟩ (cc_LongForm_kindIn l D tc tb z0 ((j_ushr x0 12) &&& 7) 1 (by decide)) (va_cwS 2 hts (goodS a_428 a_429 a_12 a_430) rfl rfl rfl hs_Long_kindIn ⟨Nat.le_of_ble_eq_true rfl, Nat.le_of_ble_eq_true rfl⟩) (hP.sub [] rfl) hK (hB.kept hS hZ) rfl hl.1 rfl (Nat.le_of_ble_eq_true rfl) d_Long_read_228 ⟨Nat.zero_le _, Nat.zero_le _⟩ ?_
    refine lv_iload_n hx hb d_Long_read_231 rfl (lv_at hl 4 rfl) ?_
    refine lv_iload_n hx hb d_Long_read_232 rfl (lv_at hl 3 rfl) ?_
    refine lv_iconst (v := 0) hx hb d_Long_read_233 (by decide) ?_
    refine lv_iload hx hb d_Long_read_234 (lv_at hl 0 rfl) ?_
    obtain ⟨q_236, e_236⟩ : ∃ z, z = (cF_Word_is (cF_LongForm_kindIn 1 ((j_ushr x0 12) &&& 7)) ((j_ushr x0 7) &&& 31) ((j_ushr x0 15) &&& 31) 0 (x0 >>> ((20 : Int32) &&& 31))) := ⟨_, rfl⟩
    refine wVv (As := [.int (cF_LongForm_kindIn 1 ((j_ushr x0 12) &&& 7)), .int ((j_ushr x0 7) &&& 31), .int ((j_ushr x0 15) &&& 31), .int 0, .int (x0 >>> ((20 : Int32) &&& 31))]) (rest := []) e_236 ⟨hx, hb, hml, hown, hts⟩ (cc_Word_is l D tc tb z0 _ a_w q_2.1 q_2.2.1 q_2.2.2.1 q_2.2.2.2.1 q_2.2.2.2.2.1 q_2.2.2.2.2.2 (cF_LongForm_kindIn 1 ((j_ushr x0 12) &&& 7)) ((j_ushr x0 7) &&& 31) ((j_ushr x0 15) &&& 31) 0 (x0 >>> ((20 : Int32) &&& 31))) (cwV 5 hts (goodV a_421 a_357 a_358 a_9 a_359) rfl rfl rfl hv_Word_is ⟨Nat.le_of_ble_eq_true rfl, Nat.le_of_ble_eq_true rfl⟩) hP hD hS hA hZ hK hB [0] rfl (by decide) (fun _ => rfl) rfl rfl rfl hl.1 rfl (Nat.le_of_ble_eq_true rfl) d_Long_read_236 ⟨Nat.zero_le _, Nat.zero_le _⟩ (fun H locs hP hD hS => ?_)
    have hP : va_P D vwCl [(a_w, .inr (4, [.int q_2.1, .int q_236.1, .int q_236.2.1, .int q_236.2.2.1, .int q_236.2.2.2.1, .int q_236.2.2.2.2]))] H := hP
    have hD : va_D A [(a_w, .inr (4, [.int q_2.1, .int q_236.1, .int q_236.2.1, .int q_236.2.2.1, .int q_236.2.2.2.1, .int q_236.2.2.2.2]))] := hD
    refine lv_goto (tgt := 306) hx hb d_Long_read_239 (by decide) ?_
    exact W.vret hx hb hr (fun t ht hW => ⟨⟨(q_2.1, q_236.1, q_236.2.1, q_236.2.2.1, q_236.2.2.2.1, q_236.2.2.2.2), rfl, by rw [cF_LongForm_read, ← e_2, cF_LongForm_read_1, if_pos c_49_0, ← e_236, cF_LongForm_read_2], by rw [ht]; exact hP, va_K.moved hW.alike hK, hD⟩, hS.F ht⟩) hS.2.2 d_Long_read_306
  · skip
    by_cases c_49_1 : (x0 &&& 127) = 19
    · skip
      refine lv_lookup (off := 216) (tgt := 265) hx hb d_Long_read_49 (by decide) (by rw [c_49_1] <;> rfl) (by decide) ?_
      refine lv_iload_n hx hb d_Long_read_265 rfl (lv_at hl 5 rfl) ?_
      refine lv_aload_n hx hb d_Long_read_266 rfl (lv_at hl 6 rfl) ?_
      obtain ⟨q_267, e_267⟩ : ∃ z, z = (cF_LongForm_readImmediate x0) := ⟨_, rfl⟩
      refine wSv (As := [.int x0, .ref a_w]) (rest := []) e_267 ⟨hx, hb, hml, hown, hts⟩ (cc_LongForm_readImmediate l D tc tb z0 _ a_w q_2.1 q_2.2.1 q_2.2.2.1 q_2.2.2.2.1 q_2.2.2.2.2.1 q_2.2.2.2.2.2 x0) (va_cwS 2 hts (goodS a_439 a_440 a_12 a_441) rfl rfl rfl hs_Long_readImmediate ⟨Nat.le_of_ble_eq_true rfl, Nat.le_of_ble_eq_true rfl⟩) hP hD hS hA hZ hK hB [0] rfl (by decide) (fun _ => rfl) rfl hl.1 rfl (Nat.le_of_ble_eq_true rfl) d_Long_read_267 ⟨Nat.zero_le _, Nat.zero_le _⟩ (fun H locs hP hD hS => ?_)
      have hP : va_P D vwCl [(a_w, .inr (4, [.int q_2.1, .int q_267.1, .int q_267.2.1, .int q_267.2.2.1, .int q_267.2.2.2.1, .int q_267.2.2.2.2]))] H := hP
      have hD : va_D A [(a_w, .inr (4, [.int q_2.1, .int q_267.1, .int q_267.2.1, .int q_267.2.2.1, .int q_267.2.2.2.1, .int q_267.2.2.2.2]))] := hD
      refine lv_goto (tgt := 306) hx hb d_Long_read_270 (by decide) ?_
      exact W.vret hx hb hr (fun t ht hW => ⟨⟨(q_2.1, q_267.1, q_267.2.1, q_267.2.2.1, q_267.2.2.2.1, q_267.2.2.2.2), rfl, by rw [cF_LongForm_read, ← e_2, cF_LongForm_read_1, if_neg c_49_0, if_pos c_49_1, ← e_267, cF_LongForm_read_3], by rw [ht]; exact hP, va_K.moved hW.alike hK, hD⟩, hS.F ht⟩) hS.2.2 d_Long_read_306
    · skip
      by_cases c_49_2 : (x0 &&& 127) = 23
      · skip
        refine lv_lookup (off := 98) (tgt := 147) hx hb d_Long_read_49 (by decide) (by rw [c_49_2] <;> rfl) (by decide) ?_
        refine lv_aload_n hx hb d_Long_read_147 rfl (lv_at hl 6 rfl) ?_
        refine lv_iconst (v := 1) hx hb d_Long_read_148 (by decide) ?_
        refine lv_iload_n hx hb d_Long_read_149 rfl (lv_at hl 4 rfl) ?_
        refine lv_iconst (v := 0) hx hb d_Long_read_150 (by decide) ?_
        refine lv_iconst (v := 0) hx hb d_Long_read_151 (by decide) ?_
        refine lv_iload_n hx hb d_Long_read_152 rfl (lv_at hl 5 rfl) ?_
        refine lv_bipush (v := 12) hx hb d_Long_read_153 (by decide) ?_
        refine lv_iushr (v := (j_ushr x0 12)) hx hb d_Long_read_155 rfl ?_
        obtain ⟨q_156, e_156⟩ : ∃ z, z = (cF_Word_is 1 ((j_ushr x0 7) &&& 31) 0 0 (j_ushr x0 12)) := ⟨_, rfl⟩
        refine wVv (As := [.int 1, .int ((j_ushr x0 7) &&& 31), .int 0, .int 0, .int (j_ushr x0 12)]) (rest := []) e_156 ⟨hx, hb, hml, hown, hts⟩ (cc_Word_is l D tc tb z0 _ a_w q_2.1 q_2.2.1 q_2.2.2.1 q_2.2.2.2.1 q_2.2.2.2.2.1 q_2.2.2.2.2.2 1 ((j_ushr x0 7) &&& 31) 0 0 (j_ushr x0 12)) (cwV 5 hts (goodV a_421 a_357 a_358 a_9 a_359) rfl rfl rfl hv_Word_is ⟨Nat.le_of_ble_eq_true rfl, Nat.le_of_ble_eq_true rfl⟩) hP hD hS hA hZ hK hB [0] rfl (by decide) (fun _ => rfl) rfl rfl rfl hl.1 rfl (Nat.le_of_ble_eq_true rfl) d_Long_read_156 ⟨Nat.zero_le _, Nat.zero_le _⟩ (fun H locs hP hD hS => ?_)
        have hP : va_P D vwCl [(a_w, .inr (4, [.int q_2.1, .int q_156.1, .int q_156.2.1, .int q_156.2.2.1, .int q_156.2.2.2.1, .int q_156.2.2.2.2]))] H := hP
        have hD : va_D A [(a_w, .inr (4, [.int q_2.1, .int q_156.1, .int q_156.2.1, .int q_156.2.2.1, .int q_156.2.2.2.1, .int q_156.2.2.2.2]))] := hD
        refine lv_goto (tgt := 306) hx hb d_Long_read_159 (by decide) ?_
        exact W.vret hx hb hr (fun t ht hW => ⟨⟨(q_2.1, q_156.1, q_156.2.1, q_156.2.2.1, q_156.2.2.2.1, q_156.2.2.2.2), rfl, by rw [cF_LongForm_read, ← e_2, cF_LongForm_read_1, if_neg c_49_0, if_neg c_49_1, if_pos c_49_2, ← e_156, cF_LongForm_read_4], by rw [ht]; exact hP, va_K.moved hW.alike hK, hD⟩, hS.F ht⟩) hS.2.2 d_Long_read_306
      · skip
        by_cases c_49_3 : (x0 &&& 127) = 35
        · skip
          refine lv_lookup (off := 193) (tgt := 242) hx hb d_Long_read_49 (by decide) (by rw [c_49_3] <;> rfl) (by decide) ?_
          refine lv_aload_n hx hb d_Long_read_242 rfl (lv_at hl 6 rfl) ?_
          refine va_gets hx hb (hB 2 (by decide)).1 (hS.wk hZ) hown (hts _ a_435) (fun _ h9 => h9) d_Long_read_243 ?_
          refine lv_iload hx hb d_Long_read_246 (lv_at hl 1 rfl) ?_
          refine roSi (As := [.ref (tb 2), .int ((j_ushr x0 12) &&& 7)]) (rest := [.ref a_w]) ⟨hx, hb, hml, hown, hts⟩ (cc_LongForm_kindIn l D tc tb z0 ((j_ushr x0 12) &&& 7) 2 (by decide)) (va_cwS 2 hts (goodS a_428 a_429 a_12 a_430) rfl rfl rfl hs_Long_kindIn ⟨Nat.le_of_ble_eq_true rfl, Nat.le_of_ble_eq_true rfl⟩) (hP.sub [] rfl) hK (hB.kept hS hZ) rfl hl.1 rfl (Nat.le_of_ble_eq_true rfl) d_Long_read_248 ⟨Nat.zero_le _, Nat.zero_le _⟩ ?_
          refine lv_iconst (v := 0) hx hb d_Long_read_251 (by decide) ?_
          refine lv_iload_n hx hb d_Long_read_252 rfl (lv_at hl 3 rfl) ?_
          refine lv_iload hx hb d_Long_read_253 (lv_at hl 2 rfl) ?_
          refine lv_iload_n hx hb d_Long_read_255 rfl (lv_at hl 5 rfl) ?_
          refine roSi (As := [.int x0]) (rest := [.int ((j_ushr x0 20) &&& 31), .int ((j_ushr x0 15) &&& 31), .int 0, .int (cF_LongForm_kindIn 2 ((j_ushr x0 12) &&& 7)), .ref a_w]) ⟨hx, hb, hml, hown, hts⟩ (cc_LongForm_immediateOfStore l D tc tb z0 x0) (va_cwS 1 hts (goodS a_436 a_437 a_12 a_438) rfl rfl rfl hs_Long_immediateOfStore ⟨Nat.le_of_ble_eq_true rfl, Nat.le_of_ble_eq_true rfl⟩) (hP.sub [] rfl) hK (hB.kept hS hZ) rfl hl.1 rfl (Nat.le_of_ble_eq_true rfl) d_Long_read_256 ⟨Nat.zero_le _, Nat.zero_le _⟩ ?_
          obtain ⟨q_259, e_259⟩ : ∃ z, z = (cF_Word_is (cF_LongForm_kindIn 2 ((j_ushr x0 12) &&& 7)) 0 ((j_ushr x0 15) &&& 31) ((j_ushr x0 20) &&& 31) (cF_LongForm_immediateOfStore x0)) := ⟨_, rfl⟩
          refine wVv (As := [.int (cF_LongForm_kindIn 2 ((j_ushr x0 12) &&& 7)), .int 0, .int ((j_ushr x0 15) &&& 31), .int ((j_ushr x0 20) &&& 31), .int (cF_LongForm_immediateOfStore x0)]) (rest := []) e_259 ⟨hx, hb, hml, hown, hts⟩ (cc_Word_is l D tc tb z0 _ a_w q_2.1 q_2.2.1 q_2.2.2.1 q_2.2.2.2.1 q_2.2.2.2.2.1 q_2.2.2.2.2.2 (cF_LongForm_kindIn 2 ((j_ushr x0 12) &&& 7)) 0 ((j_ushr x0 15) &&& 31) ((j_ushr x0 20) &&& 31) (cF_LongForm_immediateOfStore x0)) (cwV 5 hts (goodV a_421 a_357 a_358 a_9 a_359) rfl rfl rfl hv_Word_is ⟨Nat.le_of_ble_eq_true rfl, Nat.le_of_ble_eq_true rfl⟩) hP hD hS hA hZ hK hB [0] rfl (by decide) (fun _ => rfl) rfl rfl rfl hl.1 rfl (Nat.le_of_ble_eq_true rfl) d_Long_read_259 ⟨Nat.zero_le _, Nat.zero_le _⟩ (fun H locs hP hD hS => ?_)
          have hP : va_P D vwCl [(a_w, .inr (4, [.int q_2.1, .int q_259.1, .int q_259.2.1, .int q_259.2.2.1, .int q_259.2.2.2.1, .int q_259.2.2.2.2]))] H := hP
          have hD : va_D A [(a_w, .inr (4, [.int q_2.1, .int q_259.1, .int q_259.2.1, .int q_259.2.2.1, .int q_259.2.2.2.1, .int q_259.2.2.2.2]))] := hD
          refine lv_goto (tgt := 306) hx hb d_Long_read_262 (by decide) ?_
          exact W.vret hx hb hr (fun t ht hW => ⟨⟨(q_2.1, q_259.1, q_259.2.1, q_259.2.2.1, q_259.2.2.2.1, q_259.2.2.2.2), rfl, by rw [cF_LongForm_read, ← e_2, cF_LongForm_read_1, if_neg c_49_0, if_neg c_49_1, if_neg c_49_2, if_pos c_49_3, ← e_259, cF_LongForm_read_5], by rw [ht]; exact hP, va_K.moved hW.alike hK, hD⟩, hS.F ht⟩) hS.2.2 d_Long_read_306
        · skip
          by_cases c_49_4 : (x0 &&& 127) = 51
          · skip
            refine lv_lookup (off := 224) (tgt := 273) hx hb d_Long_read_49 (by decide) (by rw [c_49_4] <;> rfl) (by decide) ?_
            refine lv_aload_n hx hb d_Long_read_273 rfl (lv_at hl 6 rfl) ?_
            refine lv_iload hx hb d_Long_read_274 (lv_at hl 1 rfl) ?_
            refine lv_iload_n hx hb d_Long_read_276 rfl (lv_at hl 5 rfl) ?_
            refine lv_bipush (v := 25) hx hb d_Long_read_277 (by decide) ?_
            refine lv_iushr (v := (j_ushr x0 25)) hx hb d_Long_read_279 rfl ?_
            refine roSi (As := [.int ((j_ushr x0 12) &&& 7), .int (j_ushr x0 25)]) (rest := [.ref a_w]) ⟨hx, hb, hml, hown, hts⟩ (cc_LongForm_kindOfPair l D tc tb z0 ((j_ushr x0 12) &&& 7) (j_ushr x0 25)) (va_cwS 2 hts (goodS a_446 a_447 a_12 a_448) rfl rfl rfl hs_Long_kindOfPair ⟨Nat.le_of_ble_eq_true rfl, Nat.le_of_ble_eq_true rfl⟩) (hP.sub [] rfl) hK (hB.kept hS hZ) rfl hl.1 rfl (Nat.le_of_ble_eq_true rfl) d_Long_read_280 ⟨Nat.zero_le _, Nat.zero_le _⟩ ?_
            refine lv_iload_n hx hb d_Long_read_283 rfl (lv_at hl 4 rfl) ?_
            refine lv_iload_n hx hb d_Long_read_284 rfl (lv_at hl 3 rfl) ?_
            refine lv_iload hx hb d_Long_read_285 (lv_at hl 2 rfl) ?_
            refine lv_iconst (v := 0) hx hb d_Long_read_287 (by decide) ?_
            obtain ⟨q_288, e_288⟩ : ∃ z, z = (cF_Word_is (cF_LongForm_kindOfPair ((j_ushr x0 12) &&& 7) (j_ushr x0 25)) ((j_ushr x0 7) &&& 31) ((j_ushr x0 15) &&& 31) ((j_ushr x0 20) &&& 31) 0) := ⟨_, rfl⟩
            refine wVv (As := [.int (cF_LongForm_kindOfPair ((j_ushr x0 12) &&& 7) (j_ushr x0 25)), .int ((j_ushr x0 7) &&& 31), .int ((j_ushr x0 15) &&& 31), .int ((j_ushr x0 20) &&& 31), .int 0]) (rest := []) e_288 ⟨hx, hb, hml, hown, hts⟩ (cc_Word_is l D tc tb z0 _ a_w q_2.1 q_2.2.1 q_2.2.2.1 q_2.2.2.2.1 q_2.2.2.2.2.1 q_2.2.2.2.2.2 (cF_LongForm_kindOfPair ((j_ushr x0 12) &&& 7) (j_ushr x0 25)) ((j_ushr x0 7) &&& 31) ((j_ushr x0 15) &&& 31) ((j_ushr x0 20) &&& 31) 0) (cwV 5 hts (goodV a_421 a_357 a_358 a_9 a_359) rfl rfl rfl hv_Word_is ⟨Nat.le_of_ble_eq_true rfl, Nat.le_of_ble_eq_true rfl⟩) hP hD hS hA hZ hK hB [0] rfl (by decide) (fun _ => rfl) rfl rfl rfl hl.1 rfl (Nat.le_of_ble_eq_true rfl) d_Long_read_288 ⟨Nat.zero_le _, Nat.zero_le _⟩ (fun H locs hP hD hS => ?_)
            have hP : va_P D vwCl [(a_w, .inr (4, [.int q_2.1, .int q_288.1, .int q_288.2.1, .int q_288.2.2.1, .int q_288.2.2.2.1, .int q_288.2.2.2.2]))] H := hP
            have hD : va_D A [(a_w, .inr (4, [.int q_2.1, .int q_288.1, .int q_288.2.1, .int q_288.2.2.1, .int q_288.2.2.2.1, .int q_288.2.2.2.2]))] := hD
            refine lv_goto (tgt := 306) hx hb d_Long_read_291 (by decide) ?_
            exact W.vret hx hb hr (fun t ht hW => ⟨⟨(q_2.1, q_288.1, q_288.2.1, q_288.2.2.1, q_288.2.2.2.1, q_288.2.2.2.2), rfl, by rw [cF_LongForm_read, ← e_2, cF_LongForm_read_1, if_neg c_49_0, if_neg c_49_1, if_neg c_49_2, if_neg c_49_3, if_pos c_49_4, ← e_288, cF_LongForm_read_6], by rw [ht]; exact hP, va_K.moved hW.alike hK, hD⟩, hS.F ht⟩) hS.2.2 d_Long_read_306
          · skip
            by_cases c_49_5 : (x0 &&& 127) = 55
            · skip
              refine lv_lookup (off := 83) (tgt := 132) hx hb d_Long_read_49 (by decide) (by rw [c_49_5] <;> rfl) (by decide) ?_
              refine lv_aload_n hx hb d_Long_read_132 rfl (lv_at hl 6 rfl) ?_
              refine lv_iconst (v := 0) hx hb d_Long_read_133 (by decide) ?_
              refine lv_iload_n hx hb d_Long_read_134 rfl (lv_at hl 4 rfl) ?_
              refine lv_iconst (v := 0) hx hb d_Long_read_135 (by decide) ?_
              refine lv_iconst (v := 0) hx hb d_Long_read_136 (by decide) ?_
              refine lv_iload_n hx hb d_Long_read_137 rfl (lv_at hl 5 rfl) ?_
              refine lv_bipush (v := 12) hx hb d_Long_read_138 (by decide) ?_
              refine lv_iushr (v := (j_ushr x0 12)) hx hb d_Long_read_140 rfl ?_
              obtain ⟨q_141, e_141⟩ : ∃ z, z = (cF_Word_is 0 ((j_ushr x0 7) &&& 31) 0 0 (j_ushr x0 12)) := ⟨_, rfl⟩
              refine wVv (As := [.int 0, .int ((j_ushr x0 7) &&& 31), .int 0, .int 0, .int (j_ushr x0 12)]) (rest := []) e_141 ⟨hx, hb, hml, hown, hts⟩ (cc_Word_is l D tc tb z0 _ a_w q_2.1 q_2.2.1 q_2.2.2.1 q_2.2.2.2.1 q_2.2.2.2.2.1 q_2.2.2.2.2.2 0 ((j_ushr x0 7) &&& 31) 0 0 (j_ushr x0 12)) (cwV 5 hts (goodV a_421 a_357 a_358 a_9 a_359) rfl rfl rfl hv_Word_is ⟨Nat.le_of_ble_eq_true rfl, Nat.le_of_ble_eq_true rfl⟩) hP hD hS hA hZ hK hB [0] rfl (by decide) (fun _ => rfl) rfl rfl rfl hl.1 rfl (Nat.le_of_ble_eq_true rfl) d_Long_read_141 ⟨Nat.zero_le _, Nat.zero_le _⟩ (fun H locs hP hD hS => ?_)
              have hP : va_P D vwCl [(a_w, .inr (4, [.int q_2.1, .int q_141.1, .int q_141.2.1, .int q_141.2.2.1, .int q_141.2.2.2.1, .int q_141.2.2.2.2]))] H := hP
              have hD : va_D A [(a_w, .inr (4, [.int q_2.1, .int q_141.1, .int q_141.2.1, .int q_141.2.2.1, .int q_141.2.2.2.1, .int q_141.2.2.2.2]))] := hD
              refine lv_goto (tgt := 306) hx hb d_Long_read_144 (by decide) ?_
              exact W.vret hx hb hr (fun t ht hW => ⟨⟨(q_2.1, q_141.1, q_141.2.1, q_141.2.2.1, q_141.2.2.2.1, q_141.2.2.2.2), rfl, by rw [cF_LongForm_read, ← e_2, cF_LongForm_read_1, if_neg c_49_0, if_neg c_49_1, if_neg c_49_2, if_neg c_49_3, if_neg c_49_4, if_pos c_49_5, ← e_141, cF_LongForm_read_7], by rw [ht]; exact hP, va_K.moved hW.alike hK, hD⟩, hS.F ht⟩) hS.2.2 d_Long_read_306
            · skip
              by_cases c_49_6 : (x0 &&& 127) = 99
              · skip
                refine lv_lookup (off := 150) (tgt := 199) hx hb d_Long_read_49 (by decide) (by rw [c_49_6] <;> rfl) (by decide) ?_
                refine lv_aload_n hx hb d_Long_read_199 rfl (lv_at hl 6 rfl) ?_
                refine va_gets hx hb (hB 0 (by decide)).1 (hS.wk hZ) hown (hts _ a_427) (fun _ h9 => h9) d_Long_read_200 ?_
                refine lv_iload hx hb d_Long_read_203 (lv_at hl 1 rfl) ?_
                refine roSi (As := [.ref (tb 0), .int ((j_ushr x0 12) &&& 7)]) (rest := [.ref a_w]) ⟨hx, hb, hml, hown, hts⟩ (cc_LongForm_kindIn l D tc tb z0 ((j_ushr x0 12) &&& 7) 0 (by decide)) (va_cwS 2 hts (goodS a_428 a_429 a_12 a_430) rfl rfl rfl hs_Long_kindIn ⟨Nat.le_of_ble_eq_true rfl, Nat.le_of_ble_eq_true rfl⟩) (hP.sub [] rfl) hK (hB.kept hS hZ) rfl hl.1 rfl (Nat.le_of_ble_eq_true rfl) d_Long_read_205 ⟨Nat.zero_le _, Nat.zero_le _⟩ ?_
                refine lv_iconst (v := 0) hx hb d_Long_read_208 (by decide) ?_
                refine lv_iload_n hx hb d_Long_read_209 rfl (lv_at hl 3 rfl) ?_
                refine lv_iload hx hb d_Long_read_210 (lv_at hl 2 rfl) ?_
                refine lv_iload_n hx hb d_Long_read_212 rfl (lv_at hl 5 rfl) ?_
                refine roSi (As := [.int x0]) (rest := [.int ((j_ushr x0 20) &&& 31), .int ((j_ushr x0 15) &&& 31), .int 0, .int (cF_LongForm_kindIn 0 ((j_ushr x0 12) &&& 7)), .ref a_w]) ⟨hx, hb, hml, hown, hts⟩ (cc_LongForm_immediateOfBranch l D tc tb z0 x0) (va_cwS 1 hts (goodS a_431 a_432 a_12 a_433) rfl rfl rfl hs_Long_immediateOfBranch ⟨Nat.le_of_ble_eq_true rfl, Nat.le_of_ble_eq_true rfl⟩) (hP.sub [] rfl) hK (hB.kept hS hZ) rfl hl.1 rfl (Nat.le_of_ble_eq_true rfl) d_Long_read_213 ⟨Nat.zero_le _, Nat.zero_le _⟩ ?_
                obtain ⟨q_216, e_216⟩ : ∃ z, z = (cF_Word_is (cF_LongForm_kindIn 0 ((j_ushr x0 12) &&& 7)) 0 ((j_ushr x0 15) &&& 31) ((j_ushr x0 20) &&& 31) (cF_LongForm_immediateOfBranch x0)) := ⟨_, rfl⟩
                refine wVv (As := [.int (cF_LongForm_kindIn 0 ((j_ushr x0 12) &&& 7)), .int 0, .int ((j_ushr x0 15) &&& 31), .int ((j_ushr x0 20) &&& 31), .int (cF_LongForm_immediateOfBranch x0)]) (rest := []) e_216 ⟨hx, hb, hml, hown, hts⟩ (cc_Word_is l D tc tb z0 _ a_w q_2.1 q_2.2.1 q_2.2.2.1 q_2.2.2.2.1 q_2.2.2.2.2.1 q_2.2.2.2.2.2 (cF_LongForm_kindIn 0 ((j_ushr x0 12) &&& 7)) 0 ((j_ushr x0 15) &&& 31) ((j_ushr x0 20) &&& 31) (cF_LongForm_immediateOfBranch x0)) (cwV 5 hts (goodV a_421 a_357 a_358 a_9 a_359) rfl rfl rfl hv_Word_is ⟨Nat.le_of_ble_eq_true rfl, Nat.le_of_ble_eq_true rfl⟩) hP hD hS hA hZ hK hB [0] rfl (by decide) (fun _ => rfl) rfl rfl rfl hl.1 rfl (Nat.le_of_ble_eq_true rfl) d_Long_read_216 ⟨Nat.zero_le _, Nat.zero_le _⟩ (fun H locs hP hD hS => ?_)
                have hP : va_P D vwCl [(a_w, .inr (4, [.int q_2.1, .int q_216.1, .int q_216.2.1, .int q_216.2.2.1, .int q_216.2.2.2.1, .int q_216.2.2.2.2]))] H := hP
                have hD : va_D A [(a_w, .inr (4, [.int q_2.1, .int q_216.1, .int q_216.2.1, .int q_216.2.2.1, .int q_216.2.2.2.1, .int q_216.2.2.2.2]))] := hD
                refine lv_goto (tgt := 306) hx hb d_Long_read_219 (by decide) ?_
                exact W.vret hx hb hr (fun t ht hW => ⟨⟨(q_2.1, q_216.1, q_216.2.1, q_216.2.2.1, q_216.2.2.2.1, q_216.2.2.2.2), rfl, by rw [cF_LongForm_read, ← e_2, cF_LongForm_read_1, if_neg c_49_0, if_neg c_49_1, if_neg c_49_2, if_neg c_49_3, if_neg c_49_4, if_neg c_49_5, if_pos c_49_6, ← e_216, cF_LongForm_read_8], by rw [ht]; exact hP, va_K.moved hW.alike hK, hD⟩, hS.F ht⟩) hS.2.2 d_Long_read_306
              · skip
                by_cases c_49_7 : (x0 &&& 127) = 103
                · skip
                  refine lv_lookup (off := 128) (tgt := 177) hx hb d_Long_read_49 (by decide) (by rw [c_49_7] <;> rfl) (by decide) ?_
                  refine lv_aload_n hx hb d_Long_read_177 rfl (lv_at hl 6 rfl) ?_
                  refine lv_iload hx hb d_Long_read_178 (lv_at hl 1 rfl) ?_
                  refine lv_if_ne (tgt := 187) hx hb d_Long_read_180 (by decide) (fun c_180 => ?_) (fun c_180 => ?_)
                  · skip
                    refine lv_iconst (v := (-1)) hx hb d_Long_read_187 (by decide) ?_
                    refine lv_iload_n hx hb d_Long_read_188 rfl (lv_at hl 4 rfl) ?_
                    refine lv_iload_n hx hb d_Long_read_189 rfl (lv_at hl 3 rfl) ?_
                    refine lv_iconst (v := 0) hx hb d_Long_read_190 (by decide) ?_
                    refine lv_iload hx hb d_Long_read_191 (lv_at hl 0 rfl) ?_
                    obtain ⟨q_193, e_193⟩ : ∃ z, z = (cF_Word_is (-1) ((j_ushr x0 7) &&& 31) ((j_ushr x0 15) &&& 31) 0 (x0 >>> ((20 : Int32) &&& 31))) := ⟨_, rfl⟩
                    refine wVv (As := [.int (-1), .int ((j_ushr x0 7) &&& 31), .int ((j_ushr x0 15) &&& 31), .int 0, .int (x0 >>> ((20 : Int32) &&& 31))]) (rest := []) e_193 ⟨hx, hb, hml, hown, hts⟩ (cc_Word_is l D tc tb z0 _ a_w q_2.1 q_2.2.1 q_2.2.2.1 q_2.2.2.2.1 q_2.2.2.2.2.1 q_2.2.2.2.2.2 (-1) ((j_ushr x0 7) &&& 31) ((j_ushr x0 15) &&& 31) 0 (x0 >>> ((20 : Int32) &&& 31))) (cwV 5 hts (goodV a_421 a_357 a_358 a_9 a_359) rfl rfl rfl hv_Word_is ⟨Nat.le_of_ble_eq_true rfl, Nat.le_of_ble_eq_true rfl⟩) hP hD hS hA hZ hK hB [0] rfl (by decide) (fun _ => rfl) rfl rfl rfl hl.1 rfl (Nat.le_of_ble_eq_true rfl) d_Long_read_193 ⟨Nat.zero_le _, Nat.zero_le _⟩ (fun H locs hP hD hS => ?_)
                    have hP : va_P D vwCl [(a_w, .inr (4, [.int q_2.1, .int q_193.1, .int q_193.2.1, .int q_193.2.2.1, .int q_193.2.2.2.1, .int q_193.2.2.2.2]))] H := hP
                    have hD : va_D A [(a_w, .inr (4, [.int q_2.1, .int q_193.1, .int q_193.2.1, .int q_193.2.2.1, .int q_193.2.2.2.1, .int q_193.2.2.2.2]))] := hD
                    refine lv_goto (tgt := 306) hx hb d_Long_read_196 (by decide) ?_
                    exact W.vret hx hb hr (fun t ht hW => ⟨⟨(q_2.1, q_193.1, q_193.2.1, q_193.2.2.1, q_193.2.2.2.1, q_193.2.2.2.2), rfl, by rw [cF_LongForm_read, ← e_2, cF_LongForm_read_1, if_neg c_49_0, if_neg c_49_1, if_neg c_49_2, if_neg c_49_3, if_neg c_49_4, if_neg c_49_5, if_neg c_49_6, if_pos c_49_7, if_neg c_180, ← e_193, cF_LongForm_read_9], by rw [ht]; exact hP, va_K.moved hW.alike hK, hD⟩, hS.F ht⟩) hS.2.2 d_Long_read_306
                  · skip
                    refine lv_iconst (v := 3) hx hb d_Long_read_183 (by decide) ?_
                    refine lv_goto (tgt := 188) hx hb d_Long_read_184 (by decide) ?_
                    refine lv_iload_n hx hb d_Long_read_188 rfl (lv_at hl 4 rfl) ?_
                    refine lv_iload_n hx hb d_Long_read_189 rfl (lv_at hl 3 rfl) ?_
                    refine lv_iconst (v := 0) hx hb d_Long_read_190 (by decide) ?_
                    refine lv_iload hx hb d_Long_read_191 (lv_at hl 0 rfl) ?_
                    obtain ⟨q_193, e_193⟩ : ∃ z, z = (cF_Word_is 3 ((j_ushr x0 7) &&& 31) ((j_ushr x0 15) &&& 31) 0 (x0 >>> ((20 : Int32) &&& 31))) := ⟨_, rfl⟩
                    refine wVv (As := [.int 3, .int ((j_ushr x0 7) &&& 31), .int ((j_ushr x0 15) &&& 31), .int 0, .int (x0 >>> ((20 : Int32) &&& 31))]) (rest := []) e_193 ⟨hx, hb, hml, hown, hts⟩ (cc_Word_is l D tc tb z0 _ a_w q_2.1 q_2.2.1 q_2.2.2.1 q_2.2.2.2.1 q_2.2.2.2.2.1 q_2.2.2.2.2.2 3 ((j_ushr x0 7) &&& 31) ((j_ushr x0 15) &&& 31) 0 (x0 >>> ((20 : Int32) &&& 31))) (cwV 5 hts (goodV a_421 a_357 a_358 a_9 a_359) rfl rfl rfl hv_Word_is ⟨Nat.le_of_ble_eq_true rfl, Nat.le_of_ble_eq_true rfl⟩) hP hD hS hA hZ hK hB [0] rfl (by decide) (fun _ => rfl) rfl rfl rfl hl.1 rfl (Nat.le_of_ble_eq_true rfl) d_Long_read_193 ⟨Nat.zero_le _, Nat.zero_le _⟩ (fun H locs hP hD hS => ?_)
                    have hP : va_P D vwCl [(a_w, .inr (4, [.int q_2.1, .int q_193.1, .int q_193.2.1, .int q_193.2.2.1, .int q_193.2.2.2.1, .int q_193.2.2.2.2]))] H := hP
                    have hD : va_D A [(a_w, .inr (4, [.int q_2.1, .int q_193.1, .int q_193.2.1, .int q_193.2.2.1, .int q_193.2.2.2.1, .int q_193.2.2.2.2]))] := hD
                    refine lv_goto (tgt := 306) hx hb d_Long_read_196 (by decide) ?_
                    exact W.vret hx hb hr (fun t ht hW => ⟨⟨(q_2.1, q_193.1, q_193.2.1, q_193.2.2.1, q_193.2.2.2.1, q_193.2.2.2.2), rfl, by rw [cF_LongForm_read, ← e_2, cF_LongForm_read_1, if_neg c_49_0, if_neg c_49_1, if_neg c_49_2, if_neg c_49_3, if_neg c_49_4, if_neg c_49_5, if_neg c_49_6, if_pos c_49_7, if_pos c_180, ← e_193, cF_LongForm_read_10], by rw [ht]; exact hP, va_K.moved hW.alike hK, hD⟩, hS.F ht⟩) hS.2.2 d_Long_read_306
                · skip
                  by_cases c_49_8 : (x0 &&& 127) = 111
                  · skip
                    refine lv_lookup (off := 113) (tgt := 162) hx hb d_Long_read_49 (by decide) (by rw [c_49_8] <;> rfl) (by decide) ?_
                    refine lv_aload_n hx hb d_Long_read_162 rfl (lv_at hl 6 rfl) ?_
                    refine lv_iconst (v := 2) hx hb d_Long_read_163 (by decide) ?_
                    refine lv_iload_n hx hb d_Long_read_164 rfl (lv_at hl 4 rfl) ?_
                    refine lv_iconst (v := 0) hx hb d_Long_read_165 (by decide) ?_
                    refine lv_iconst (v := 0) hx hb d_Long_read_166 (by decide) ?_
                    refine lv_iload_n hx hb d_Long_read_167 rfl (lv_at hl 5 rfl) ?_
                    refine roSi (As := [.int x0]) (rest := [.int 0, .int 0, .int ((j_ushr x0 7) &&& 31), .int 2, .ref a_w]) ⟨hx, hb, hml, hown, hts⟩ (cc_LongForm_immediateOfJump l D tc tb z0 x0) (va_cwS 1 hts (goodS a_422 a_423 a_12 a_424) rfl rfl rfl hs_Long_immediateOfJump ⟨Nat.le_of_ble_eq_true rfl, Nat.le_of_ble_eq_true rfl⟩) (hP.sub [] rfl) hK (hB.kept hS hZ) rfl hl.1 rfl (Nat.le_of_ble_eq_true rfl) d_Long_read_168 ⟨Nat.zero_le _, Nat.zero_le _⟩ ?_
                    obtain ⟨q_171, e_171⟩ : ∃ z, z = (cF_Word_is 2 ((j_ushr x0 7) &&& 31) 0 0 (cF_LongForm_immediateOfJump x0)) := ⟨_, rfl⟩
                    refine wVv (As := [.int 2, .int ((j_ushr x0 7) &&& 31), .int 0, .int 0, .int (cF_LongForm_immediateOfJump x0)]) (rest := []) e_171 ⟨hx, hb, hml, hown, hts⟩ (cc_Word_is l D tc tb z0 _ a_w q_2.1 q_2.2.1 q_2.2.2.1 q_2.2.2.2.1 q_2.2.2.2.2.1 q_2.2.2.2.2.2 2 ((j_ushr x0 7) &&& 31) 0 0 (cF_LongForm_immediateOfJump x0)) (cwV 5 hts (goodV a_421 a_357 a_358 a_9 a_359) rfl rfl rfl hv_Word_is ⟨Nat.le_of_ble_eq_true rfl, Nat.le_of_ble_eq_true rfl⟩) hP hD hS hA hZ hK hB [0] rfl (by decide) (fun _ => rfl) rfl rfl rfl hl.1 rfl (Nat.le_of_ble_eq_true rfl) d_Long_read_171 ⟨Nat.zero_le _, Nat.zero_le _⟩ (fun H locs hP hD hS => ?_)
                    have hP : va_P D vwCl [(a_w, .inr (4, [.int q_2.1, .int q_171.1, .int q_171.2.1, .int q_171.2.2.1, .int q_171.2.2.2.1, .int q_171.2.2.2.2]))] H := hP
                    have hD : va_D A [(a_w, .inr (4, [.int q_2.1, .int q_171.1, .int q_171.2.1, .int q_171.2.2.1, .int q_171.2.2.2.1, .int q_171.2.2.2.2]))] := hD
                    refine lv_goto (tgt := 306) hx hb d_Long_read_174 (by decide) ?_
                    exact W.vret hx hb hr (fun t ht hW => ⟨⟨(q_2.1, q_171.1, q_171.2.1, q_171.2.2.1, q_171.2.2.2.1, q_171.2.2.2.2), rfl, by rw [cF_LongForm_read, ← e_2, cF_LongForm_read_1, if_neg c_49_0, if_neg c_49_1, if_neg c_49_2, if_neg c_49_3, if_neg c_49_4, if_neg c_49_5, if_neg c_49_6, if_neg c_49_7, if_pos c_49_8, ← e_171, cF_LongForm_read_11], by rw [ht]; exact hP, va_K.moved hW.alike hK, hD⟩, hS.F ht⟩) hS.2.2 d_Long_read_306
                  · skip
                    refine lv_lookup (off := 245) (tgt := 294) hx hb d_Long_read_49 (by decide) ((lv_osw (k := 3) c_49_0 (by decide)).trans <| (lv_osw (k := 19) c_49_1 (by decide)).trans <| (lv_osw (k := 23) c_49_2 (by decide)).trans <| (lv_osw (k := 35) c_49_3 (by decide)).trans <| (lv_osw (k := 51) c_49_4 (by decide)).trans <| (lv_osw (k := 55) c_49_5 (by decide)).trans <| (lv_osw (k := 99) c_49_6 (by decide)).trans <| (lv_osw (k := 103) c_49_7 (by decide)).trans <| (lv_osw (k := 111) c_49_8 (by decide)).trans <| rfl) (by decide) ?_
                    refine lv_aload_n hx hb d_Long_read_294 rfl (lv_at hl 6 rfl) ?_
                    refine lv_iload_n hx hb d_Long_read_295 rfl (lv_at hl 5 rfl) ?_
                    refine roSi (As := [.int x0]) (rest := [.ref a_w]) ⟨hx, hb, hml, hown, hts⟩ (cc_LongForm_kindOfWhole l D tc tb z0 x0) (va_cwS 1 hts (goodS a_452 a_453 a_12 a_454) rfl rfl rfl hs_Long_kindOfWhole ⟨Nat.le_of_ble_eq_true rfl, Nat.le_of_ble_eq_true rfl⟩) (hP.sub [] rfl) hK (hB.kept hS hZ) rfl hl.1 rfl (Nat.le_of_ble_eq_true rfl) d_Long_read_296 ⟨Nat.zero_le _, Nat.zero_le _⟩ ?_
                    refine lv_iconst (v := 0) hx hb d_Long_read_299 (by decide) ?_
                    refine lv_iconst (v := 0) hx hb d_Long_read_300 (by decide) ?_
                    refine lv_iconst (v := 0) hx hb d_Long_read_301 (by decide) ?_
                    refine lv_iconst (v := 0) hx hb d_Long_read_302 (by decide) ?_
                    obtain ⟨q_303, e_303⟩ : ∃ z, z = (cF_Word_is (cF_LongForm_kindOfWhole x0) 0 0 0 0) := ⟨_, rfl⟩
                    refine wVv (As := [.int (cF_LongForm_kindOfWhole x0), .int 0, .int 0, .int 0, .int 0]) (rest := []) e_303 ⟨hx, hb, hml, hown, hts⟩ (cc_Word_is l D tc tb z0 _ a_w q_2.1 q_2.2.1 q_2.2.2.1 q_2.2.2.2.1 q_2.2.2.2.2.1 q_2.2.2.2.2.2 (cF_LongForm_kindOfWhole x0) 0 0 0 0) (cwV 5 hts (goodV a_421 a_357 a_358 a_9 a_359) rfl rfl rfl hv_Word_is ⟨Nat.le_of_ble_eq_true rfl, Nat.le_of_ble_eq_true rfl⟩) hP hD hS hA hZ hK hB [0] rfl (by decide) (fun _ => rfl) rfl rfl rfl hl.1 rfl (Nat.le_of_ble_eq_true rfl) d_Long_read_303 ⟨Nat.zero_le _, Nat.zero_le _⟩ (fun H locs hP hD hS => ?_)
                    have hP : va_P D vwCl [(a_w, .inr (4, [.int q_2.1, .int q_303.1, .int q_303.2.1, .int q_303.2.2.1, .int q_303.2.2.2.1, .int q_303.2.2.2.2]))] H := hP
                    have hD : va_D A [(a_w, .inr (4, [.int q_2.1, .int q_303.1, .int q_303.2.1, .int q_303.2.2.1, .int q_303.2.2.2.1, .int q_303.2.2.2.2]))] := hD
                    exact W.vret hx hb hr (fun t ht hW => ⟨⟨(q_2.1, q_303.1, q_303.2.1, q_303.2.2.1, q_303.2.2.2.1, q_303.2.2.2.2), rfl, by rw [cF_LongForm_read, ← e_2, cF_LongForm_read_1, if_neg c_49_0, if_neg c_49_1, if_neg c_49_2, if_neg c_49_3, if_neg c_49_4, if_neg c_49_5, if_neg c_49_6, if_neg c_49_7, if_neg c_49_8, ← e_303, cF_LongForm_read_12], by rw [ht]; exact hP, va_K.moved hW.alike hK, hD⟩, hS.F ht⟩) hS.2.2 d_Long_read_306
