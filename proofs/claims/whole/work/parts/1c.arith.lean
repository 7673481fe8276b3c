def cF_Arithmetic_isBelow (x0 : Int32) (x1 : Int32) : Int32 := (if 0 ≤ (lg_cmp (x0.toInt64 &&& 4294967295) (x1.toInt64 &&& 4294967295)) then 0 else 1)
set_option maxHeartbeats 4000000 in
set_option maxRecDepth 100000 in
theorem cc_Arithmetic_isBelow (l : Launch) (D : va_G) (tc : Nat → ClassId) (tb : Nat → Nat) (z0 : Nat) (x0 : Int32) (x1 : Int32) : Met l y_Arit_isBelow (wM y_Arit_isBelow b_Arit_isBelow 2 (some .boolean)) ({ frames := 0, cells := 0, slots := 0, locals := 0 }) (va_Pc [.int x0, .int x1] (Pr D tc tb z0 [])) (vp_Si (fun r => r = (cF_Arithmetic_isBelow x0 x1))) 0 0 (fun _ => False) := by
  refine Met.ofW (cc := b_Arit_isBelow) (maxL := 2) (ret := (some .boolean)) (by decide) rfl ?_
  intro p e s m args below meth c s₁ B hml hv
  obtain ⟨rfl, hP, hK, hB⟩ := hv
  have hx := B.exec
  have hb := B.bytes
  have hr := B.returns
  have hts : ∀ w ∈ wALL, w.before _ s = true := fun w h => atoms_spec (ws := (wM y_Arit_isBelow b_Arit_isBelow 2 (some .boolean))) B.pre w (List.mem_cons_of_mem _ h)
  have hown : s.vm.findClass "StepMachine$Arithmetic" = some m.cls := findClass_of_methodNamed B.named
  have hlocks := B.notSynchronized
  have hl := lv_entry ([.int x0, .int x1]) (n := 2) (Nat.le_of_ble_eq_true rfl)
  rw [lg_entry_eq]
  generalize (lg_sl ([.int x0, .int x1]) ++ List.replicate (2 - (lg_sl ([.int x0, .int x1])).length) Slot.unset).toArray = ls at hl ⊢
  have hl : lv_has ls 2 [(0, .int x0), (1, .int x1)] := hl
  refine lv_iload_n hx hb d_Arit_isBelow_0 rfl (lv_at hl 0 rfl) ?_
  refine lv_i2l (v := x0.toInt64) hx hb d_Arit_isBelow_1 rfl ?_
  refine lv_ldc2 (v := 4294967295) hx hb hown (hts _ a_511) d_Arit_isBelow_2 ?_
  refine lv_land hx hb d_Arit_isBelow_5 ?_
  refine lv_iload_n hx hb d_Arit_isBelow_6 rfl (lv_at hl 1 rfl) ?_
  refine lv_i2l (v := x1.toInt64) hx hb d_Arit_isBelow_7 rfl ?_
  refine lv_ldc2 (v := 4294967295) hx hb hown (hts _ a_511) d_Arit_isBelow_8 ?_
  refine lv_land hx hb d_Arit_isBelow_11 ?_
  refine W.lcmp hx hb d_Arit_isBelow_12 ?_
  refine lv_if_ge (tgt := 20) hx hb d_Arit_isBelow_13 (by decide) (fun c_13 => ?_) (fun c_13 => ?_)
  · skip
    refine lv_iconst (v := 0) hx hb d_Arit_isBelow_20 (by decide) ?_
    exact W.zret (v := 0) hx hb hr rfl (fun t ht hW => ⟨_, rfl, by rw [cF_Arithmetic_isBelow, if_pos c_13], ht⟩) (fun q h => by cases h) d_Arit_isBelow_21
  · skip
    refine lv_iconst (v := 1) hx hb d_Arit_isBelow_16 (by decide) ?_
    refine lv_goto (tgt := 21) hx hb d_Arit_isBelow_17 (by decide) ?_
    exact W.zret (v := 1) hx hb hr rfl (fun t ht hW => ⟨_, rfl, by rw [cF_Arithmetic_isBelow, if_neg c_13], ht⟩) (fun q h => by cases h) d_Arit_isBelow_21
theorem nb_isBelow (x y : Int32) : narrow .boolean (.int (cF_Arithmetic_isBelow x y)) = .int (cF_Arithmetic_isBelow x y) := by
  rw [cF_Arithmetic_isBelow]
  split <;> rfl
def cF_Arithmetic_holds (x0 : Int32) (x1 : Int32) (x2 : Int32) : Int32 := (if x0 = 4 then (if x1 = x2 then 1 else 0) else (if x0 = 5 then (if x1 = x2 then 0 else 1) else (if x0 = 6 then (if x2 ≤ x1 then 0 else 1) else (if x0 = 7 then (if x1 < x2 then 0 else 1) else (if x0 = 8 then (cF_Arithmetic_isBelow x1 x2) else (if (cF_Arithmetic_isBelow x1 x2) = 0 then 1 else 0))))))
set_option maxHeartbeats 4000000 in
set_option maxRecDepth 100000 in
theorem cc_Arithmetic_holds (l : Launch) (D : va_G) (tc : Nat → ClassId) (tb : Nat → Nat) (z0 : Nat) (x0 : Int32) (x1 : Int32) (x2 : Int32) : Met l y_Arit_holds (wM y_Arit_holds b_Arit_holds 3 (some .boolean)) ({ frames := 1, cells := 0, slots := 0, locals := 21 }) (va_Pc [.int x0, .int x1, .int x2] (Pr D tc tb z0 [])) (vp_Si (fun r => r = (cF_Arithmetic_holds x0 x1 x2))) 0 0 (fun _ => False) := by
  refine Met.ofW (cc := b_Arit_holds) (maxL := 3) (ret := (some .boolean)) (by decide) rfl ?_
  intro p e s m args below meth c s₁ B hml hv
  obtain ⟨rfl, hP, hK, hB⟩ := hv
  have hx := B.exec
  have hb := B.bytes
  have hr := B.returns
  have hts : ∀ w ∈ wALL, w.before _ s = true := fun w h => atoms_spec (ws := (wM y_Arit_holds b_Arit_holds 3 (some .boolean))) B.pre w (List.mem_cons_of_mem _ h)
  have hown : s.vm.findClass "StepMachine$Arithmetic" = some m.cls := findClass_of_methodNamed B.named
  have hlocks := B.notSynchronized
  have hl := lv_entry ([.int x0, .int x1, .int x2]) (n := 3) (Nat.le_of_ble_eq_true rfl)
  rw [lg_entry_eq]
  generalize (lg_sl ([.int x0, .int x1, .int x2]) ++ List.replicate (3 - (lg_sl ([.int x0, .int x1, .int x2])).length) Slot.unset).toArray = ls at hl ⊢
  have hl : lv_has ls 3 [(0, .int x0), (1, .int x1), (2, .int x2)] := hl
  refine lv_iload_n hx hb d_Arit_holds_0 rfl (lv_at hl 0 rfl) ?_
  by_cases c_1_0 : x0 = 4
  · skip
    refine lv_tableIn (tgt := 36) hx hb d_Arit_holds_1 (by rw [c_1_0]; decide) (by rw [c_1_0]; decide) (by rw [c_1_0] <;> rfl) (by decide) ?_
    refine lv_iload_n hx hb d_Arit_holds_36 rfl (lv_at hl 1 rfl) ?_
    refine lv_iload_n hx hb d_Arit_holds_37 rfl (lv_at hl 2 rfl) ?_
    refine lv_icmp_ne (tgt := 45) hx hb d_Arit_holds_38 (by decide) (fun c_38 => ?_) (fun c_38 => ?_)
    · skip
      refine lv_iconst (v := 0) hx hb d_Arit_holds_45 (by decide) ?_
      exact W.zret (v := 0) hx hb hr rfl (fun t ht hW => ⟨_, rfl, by rw [cF_Arithmetic_holds, if_pos c_1_0, if_neg c_38], ht⟩) (fun q h => by cases h) d_Arit_holds_46
    · skip
      refine lv_iconst (v := 1) hx hb d_Arit_holds_41 (by decide) ?_
      refine lv_goto (tgt := 46) hx hb d_Arit_holds_42 (by decide) ?_
      exact W.zret (v := 1) hx hb hr rfl (fun t ht hW => ⟨_, rfl, by rw [cF_Arithmetic_holds, if_pos c_1_0, if_pos c_38], ht⟩) (fun q h => by cases h) d_Arit_holds_46
  · skip
    by_cases c_1_1 : x0 = 5
    · skip
      refine lv_tableIn (tgt := 47) hx hb d_Arit_holds_1 (by rw [c_1_1]; decide) (by rw [c_1_1]; decide) (by rw [c_1_1] <;> rfl) (by decide) ?_
      refine lv_iload_n hx hb d_Arit_holds_47 rfl (lv_at hl 1 rfl) ?_
      refine lv_iload_n hx hb d_Arit_holds_48 rfl (lv_at hl 2 rfl) ?_
      refine lv_icmp_eq (tgt := 56) hx hb d_Arit_holds_49 (by decide) (fun c_49 => ?_) (fun c_49 => ?_)
      · skip
        refine lv_iconst (v := 0) hx hb d_Arit_holds_56 (by decide) ?_
        exact W.zret (v := 0) hx hb hr rfl (fun t ht hW => ⟨_, rfl, by rw [cF_Arithmetic_holds, if_neg c_1_0, if_pos c_1_1, if_pos c_49], ht⟩) (fun q h => by cases h) d_Arit_holds_57
      · skip
        refine lv_iconst (v := 1) hx hb d_Arit_holds_52 (by decide) ?_
        refine lv_goto (tgt := 57) hx hb d_Arit_holds_53 (by decide) ?_
        exact W.zret (v := 1) hx hb hr rfl (fun t ht hW => ⟨_, rfl, by rw [cF_Arithmetic_holds, if_neg c_1_0, if_pos c_1_1, if_neg c_49], ht⟩) (fun q h => by cases h) d_Arit_holds_57
    · skip
      by_cases c_1_2 : x0 = 6
      · skip
        refine lv_tableIn (tgt := 58) hx hb d_Arit_holds_1 (by rw [c_1_2]; decide) (by rw [c_1_2]; decide) (by rw [c_1_2] <;> rfl) (by decide) ?_
        refine lv_iload_n hx hb d_Arit_holds_58 rfl (lv_at hl 1 rfl) ?_
        refine lv_iload_n hx hb d_Arit_holds_59 rfl (lv_at hl 2 rfl) ?_
        refine lv_icmp_ge (tgt := 67) hx hb d_Arit_holds_60 (by decide) (fun c_60 => ?_) (fun c_60 => ?_)
        · skip
          refine lv_iconst (v := 0) hx hb d_Arit_holds_67 (by decide) ?_
          exact W.zret (v := 0) hx hb hr rfl (fun t ht hW => ⟨_, rfl, by rw [cF_Arithmetic_holds, if_neg c_1_0, if_neg c_1_1, if_pos c_1_2, if_pos c_60], ht⟩) (fun q h => by cases h) d_Arit_holds_68
        · skip
          refine lv_iconst (v := 1) hx hb d_Arit_holds_63 (by decide) ?_
          refine lv_goto (tgt := 68) hx hb d_Arit_holds_64 (by decide) ?_
          exact W.zret (v := 1) hx hb hr rfl (fun t ht hW => ⟨_, rfl, by rw [cF_Arithmetic_holds, if_neg c_1_0, if_neg c_1_1, if_pos c_1_2, if_neg c_60], ht⟩) (fun q h => by cases h) d_Arit_holds_68
      · skip
        by_cases c_1_3 : x0 = 7
        · skip
          refine lv_tableIn (tgt := 69) hx hb d_Arit_holds_1 (by rw [c_1_3]; decide) (by rw [c_1_3]; decide) (by rw [c_1_3] <;> rfl) (by decide) ?_
          refine lv_iload_n hx hb d_Arit_holds_69 rfl (lv_at hl 1 rfl) ?_
          refine lv_iload_n hx hb d_Arit_holds_70 rfl (lv_at hl 2 rfl) ?_
          refine lv_icmp_lt (tgt := 78) hx hb d_Arit_holds_71 (by decide) (fun c_71 => ?_) (fun c_71 => ?_)
          · skip
            refine lv_iconst (v := 0) hx hb d_Arit_holds_78 (by decide) ?_
            exact W.zret (v := 0) hx hb hr rfl (fun t ht hW => ⟨_, rfl, by rw [cF_Arithmetic_holds, if_neg c_1_0, if_neg c_1_1, if_neg c_1_2, if_pos c_1_3, if_pos c_71], ht⟩) (fun q h => by cases h) d_Arit_holds_79
          · skip
            refine lv_iconst (v := 1) hx hb d_Arit_holds_74 (by decide) ?_
            refine lv_goto (tgt := 79) hx hb d_Arit_holds_75 (by decide) ?_
            exact W.zret (v := 1) hx hb hr rfl (fun t ht hW => ⟨_, rfl, by rw [cF_Arithmetic_holds, if_neg c_1_0, if_neg c_1_1, if_neg c_1_2, if_pos c_1_3, if_neg c_71], ht⟩) (fun q h => by cases h) d_Arit_holds_79
        · skip
          by_cases c_1_4 : x0 = 8
          · skip
            refine lv_tableIn (tgt := 80) hx hb d_Arit_holds_1 (by rw [c_1_4]; decide) (by rw [c_1_4]; decide) (by rw [c_1_4] <;> rfl) (by decide) ?_
            refine lv_iload_n hx hb d_Arit_holds_80 rfl (lv_at hl 1 rfl) ?_
            refine lv_iload_n hx hb d_Arit_holds_81 rfl (lv_at hl 2 rfl) ?_
            refine roSi (As := [.int x1, .int x2]) (rest := []) ⟨hx, hb, hml, hown, hts⟩ (cc_Arithmetic_isBelow l D tc tb z0 x1 x2) (va_cwS 2 hts (goodS a_508 a_509 a_14 a_510) rfl rfl rfl hs_Arit_isBelow ⟨Nat.le_of_ble_eq_true rfl, Nat.le_of_ble_eq_true rfl⟩) (hP.sub [] rfl) hK hB rfl hl.1 rfl (Nat.le_of_ble_eq_true rfl) d_Arit_holds_82 ⟨Nat.zero_le _, Nat.zero_le _⟩ ?_
            exact W.zret (v := (cF_Arithmetic_isBelow x1 x2)) hx hb hr (nb_isBelow _ _) (fun t ht hW => ⟨_, rfl, by rw [cF_Arithmetic_holds, if_neg c_1_0, if_neg c_1_1, if_neg c_1_2, if_neg c_1_3, if_pos c_1_4], ht⟩) (fun q h => by cases h) d_Arit_holds_85
          · skip
            refine lv_tableOut (tgt := 86) hx hb d_Arit_holds_1 (by have n_0 := lv_neT (a := 4) c_1_0 (by decide); have n_1 := lv_neT (a := 5) c_1_1 (by decide); have n_2 := lv_neT (a := 6) c_1_2 (by decide); have n_3 := lv_neT (a := 7) c_1_3 (by decide); have n_4 := lv_neT (a := 8) c_1_4 (by decide); omega) (by decide) ?_
            refine lv_iload_n hx hb d_Arit_holds_86 rfl (lv_at hl 1 rfl) ?_
            refine lv_iload_n hx hb d_Arit_holds_87 rfl (lv_at hl 2 rfl) ?_
            refine roSi (As := [.int x1, .int x2]) (rest := []) ⟨hx, hb, hml, hown, hts⟩ (cc_Arithmetic_isBelow l D tc tb z0 x1 x2) (va_cwS 2 hts (goodS a_508 a_509 a_14 a_510) rfl rfl rfl hs_Arit_isBelow ⟨Nat.le_of_ble_eq_true rfl, Nat.le_of_ble_eq_true rfl⟩) (hP.sub [] rfl) hK hB rfl hl.1 rfl (Nat.le_of_ble_eq_true rfl) d_Arit_holds_88 ⟨Nat.zero_le _, Nat.zero_le _⟩ ?_
            refine lv_if_ne (tgt := 98) hx hb d_Arit_holds_91 (by decide) (fun c_91 => ?_) (fun c_91 => ?_)
            · skip
              refine lv_iconst (v := 0) hx hb d_Arit_holds_98 (by decide) ?_
              exact W.zret (v := 0) hx hb hr rfl (fun t ht hW => ⟨_, rfl, by rw [cF_Arithmetic_holds, if_neg c_1_0, if_neg c_1_1, if_neg c_1_2, if_neg c_1_3, if_neg c_1_4, if_neg c_91], ht⟩) (fun q h => by cases h) d_Arit_holds_99
            · skip
              refine lv_iconst (v := 1) hx hb d_Arit_holds_94 (by decide) ?_
              refine lv_goto (tgt := 99) hx hb d_Arit_holds_95 (by decide) ?_
              exact W.zret (v := 1) hx hb hr rfl (fun t ht hW => ⟨_, rfl, by rw [cF_Arithmetic_holds, if_neg c_1_0, if_neg c_1_1, if_neg c_1_2, if_neg c_1_3, if_neg c_1_4, if_pos c_91], ht⟩) (fun q h => by cases h) d_Arit_holds_99
def cF_Arithmetic_quotient (x0 : Int32) (x1 : Int32) (x2 : Int32) : Int32 := (if x0 = 43 then (if (lg_cmp x2.toInt64 0) = 0 then x1 else (x1.toInt64 - x1.toInt64 / x2.toInt64 * x2.toInt64).toInt32) else (if x0 = 44 then (if (lg_cmp (x2.toInt64 &&& 4294967295) 0) = 0 then x1 else ((x1.toInt64 &&& 4294967295) - (x1.toInt64 &&& 4294967295) / (x2.toInt64 &&& 4294967295) * (x2.toInt64 &&& 4294967295)).toInt32) else (if x0 = 41 then (if (lg_cmp x2.toInt64 0) = 0 then (-1) else (x1.toInt64 / x2.toInt64).toInt32) else (if (lg_cmp (x2.toInt64 &&& 4294967295) 0) = 0 then (-1) else ((x1.toInt64 &&& 4294967295) / (x2.toInt64 &&& 4294967295)).toInt32))))
set_option maxHeartbeats 4000000 in
set_option maxRecDepth 100000 in
theorem cc_Arithmetic_quotient (l : Launch) (D : va_G) (tc : Nat → ClassId) (tb : Nat → Nat) (z0 : Nat) (x0 : Int32) (x1 : Int32) (x2 : Int32) : Met l y_Arit_quotient (wM y_Arit_quotient b_Arit_quotient 9 (some .int)) ({ frames := 0, cells := 0, slots := 0, locals := 0 }) (va_Pc [.int x0, .int x1, .int x2] (Pr D tc tb z0 [])) (vp_Si (fun r => r = (cF_Arithmetic_quotient x0 x1 x2))) 0 0 (fun _ => False) := by
  refine Met.ofW (cc := b_Arit_quotient) (maxL := 9) (ret := (some .int)) (by decide) rfl ?_
  intro p e s m args below meth c s₁ B hml hv
  obtain ⟨rfl, hP, hK, hB⟩ := hv
  have hx := B.exec
  have hb := B.bytes
  have hr := B.returns
  have hts : ∀ w ∈ wALL, w.before _ s = true := fun w h => atoms_spec (ws := (wM y_Arit_quotient b_Arit_quotient 9 (some .int))) B.pre w (List.mem_cons_of_mem _ h)
  have hown : s.vm.findClass "StepMachine$Arithmetic" = some m.cls := findClass_of_methodNamed B.named
  have hlocks := B.notSynchronized
  have hl := lv_entry ([.int x0, .int x1, .int x2]) (n := 9) (Nat.le_of_ble_eq_true rfl)
  rw [lg_entry_eq]
  generalize (lg_sl ([.int x0, .int x1, .int x2]) ++ List.replicate (9 - (lg_sl ([.int x0, .int x1, .int x2])).length) Slot.unset).toArray = ls at hl ⊢
  have hl : lv_has ls 9 [(0, .int x0), (1, .int x1), (2, .int x2)] := hl
  refine lv_iload_n hx hb d_Arit_quotient_0 rfl (lv_at hl 0 rfl) ?_
  refine lv_bipush (v := 43) hx hb d_Arit_quotient_1 (by decide) ?_
  refine lv_icmp_eq (tgt := 12) hx hb d_Arit_quotient_3 (by decide) (fun c_3 => ?_) (fun c_3 => ?_)
  · skip
    refine lv_iconst (v := 1) hx hb d_Arit_quotient_12 (by decide) ?_
    refine lv_goto (tgt := 17) hx hb d_Arit_quotient_13 (by decide) ?_
    refine lv_istore_n (lv' := [(3, .int 1), (0, .int x0), (1, .int x1), (2, .int x2)]) hx hb d_Arit_quotient_17 rfl hl (by decide) rfl (fun ls hl => ?_)
    refine lv_iload_n hx hb d_Arit_quotient_18 rfl (lv_at hl 1 rfl) ?_
    refine lv_bipush (v := 41) hx hb d_Arit_quotient_19 (by decide) ?_
    refine lv_icmp_eq (tgt := 30) hx hb d_Arit_quotient_21 (by decide) (fun c_21 => absurd c_21 (by rw [c_3]; decide)) (fun c_21 => ?_)
    refine lv_iload_n hx hb d_Arit_quotient_24 rfl (lv_at hl 1 rfl) ?_
    refine lv_bipush (v := 43) hx hb d_Arit_quotient_25 (by decide) ?_
    refine lv_icmp_ne (tgt := 34) hx hb d_Arit_quotient_27 (by decide) (fun c_27 => absurd c_3 c_27) (fun c_27 => ?_)
    refine lv_iconst (v := 1) hx hb d_Arit_quotient_30 (by decide) ?_
    refine lv_goto (tgt := 35) hx hb d_Arit_quotient_31 (by decide) ?_
    refine lv_istore (lv' := [(4, .int 1), (3, .int 1), (0, .int x0), (1, .int x1), (2, .int x2)]) hx hb d_Arit_quotient_35 hl (by decide) rfl (fun ls hl => ?_)
    refine lv_iload hx hb d_Arit_quotient_37 (lv_at hl 0 rfl) ?_
    refine lv_if_eq (tgt := 47) hx hb d_Arit_quotient_39 (by decide) (fun c_39 => absurd c_39 (by decide)) (fun c_39 => ?_)
    refine lv_iload_n hx hb d_Arit_quotient_42 rfl (lv_at hl 3 rfl) ?_
    refine lv_i2l (v := x1.toInt64) hx hb d_Arit_quotient_43 rfl ?_
    refine lv_goto (tgt := 53) hx hb d_Arit_quotient_44 (by decide) ?_
    refine lv_lstore (lv' := [(5, .long x1.toInt64), (4, .int 1), (3, .int 1), (0, .int x0), (1, .int x1), (2, .int x2)]) hx hb d_Arit_quotient_53 hl (by decide) rfl (fun ls hl => ?_)
    refine lv_iload hx hb d_Arit_quotient_55 (lv_at hl 1 rfl) ?_
    refine lv_if_eq (tgt := 65) hx hb d_Arit_quotient_57 (by decide) (fun c_57 => absurd c_57 (by decide)) (fun c_57 => ?_)
    refine lv_iload_n hx hb d_Arit_quotient_60 rfl (lv_at hl 5 rfl) ?_
    refine lv_i2l (v := x2.toInt64) hx hb d_Arit_quotient_61 rfl ?_
    refine lv_goto (tgt := 71) hx hb d_Arit_quotient_62 (by decide) ?_
    refine lv_lstore (lv' := [(7, .long x2.toInt64), (5, .long x1.toInt64), (4, .int 1), (3, .int 1), (0, .int x0), (1, .int x1), (2, .int x2)]) hx hb d_Arit_quotient_71 hl (by decide) rfl (fun ls hl => ?_)
    refine lv_lload hx hb d_Arit_quotient_73 (lv_at hl 0 rfl) ?_
    refine lv_lconst (v := 0) hx hb d_Arit_quotient_75 (by decide) ?_
    refine W.lcmp hx hb d_Arit_quotient_76 ?_
    refine lv_if_ne (tgt := 90) hx hb d_Arit_quotient_77 (by decide) (fun c_77 => ?_) (fun c_77 => ?_)
    · skip
      refine lv_iload_n hx hb d_Arit_quotient_90 rfl (lv_at hl 3 rfl) ?_
      refine lv_if_eq (tgt := 102) hx hb d_Arit_quotient_91 (by decide) (fun c_91 => absurd c_91 (by decide)) (fun c_91 => ?_)
      refine lv_lload hx hb d_Arit_quotient_94 (lv_at hl 1 rfl) ?_
      refine lv_lload hx hb d_Arit_quotient_96 (lv_at hl 0 rfl) ?_
      refine lv_lrem hx hb d_Arit_quotient_98 (ob_lcmp c_77) ?_
      refine lv_goto (tgt := 107) hx hb d_Arit_quotient_99 (by decide) ?_
      refine lv_l2i (v := (x1.toInt64 - x1.toInt64 / x2.toInt64 * x2.toInt64).toInt32) hx hb d_Arit_quotient_107 rfl ?_
      exact W.iret (v := (x1.toInt64 - x1.toInt64 / x2.toInt64 * x2.toInt64).toInt32) hx hb hr (fun t ht hW => ⟨_, rfl, by rw [cF_Arithmetic_quotient, if_pos c_3, if_neg c_77], ht⟩) (fun q h => by cases h) d_Arit_quotient_108
    · skip
      refine lv_iload_n hx hb d_Arit_quotient_80 rfl (lv_at hl 3 rfl) ?_
      refine lv_if_eq (tgt := 88) hx hb d_Arit_quotient_81 (by decide) (fun c_81 => absurd c_81 (by decide)) (fun c_81 => ?_)
      refine lv_iload_n hx hb d_Arit_quotient_84 rfl (lv_at hl 5 rfl) ?_
      refine lv_goto (tgt := 89) hx hb d_Arit_quotient_85 (by decide) ?_
      exact W.iret (v := x1) hx hb hr (fun t ht hW => ⟨_, rfl, by rw [cF_Arithmetic_quotient, if_pos c_3, if_pos c_77], ht⟩) (fun q h => by cases h) d_Arit_quotient_89
  · skip
    refine lv_iload_n hx hb d_Arit_quotient_6 rfl (lv_at hl 0 rfl) ?_
    refine lv_bipush (v := 44) hx hb d_Arit_quotient_7 (by decide) ?_
    refine lv_icmp_ne (tgt := 16) hx hb d_Arit_quotient_9 (by decide) (fun c_9 => ?_) (fun c_9 => ?_)
    · skip
      refine lv_iconst (v := 0) hx hb d_Arit_quotient_16 (by decide) ?_
      refine lv_istore_n (lv' := [(3, .int 0), (0, .int x0), (1, .int x1), (2, .int x2)]) hx hb d_Arit_quotient_17 rfl hl (by decide) rfl (fun ls hl => ?_)
      refine lv_iload_n hx hb d_Arit_quotient_18 rfl (lv_at hl 1 rfl) ?_
      refine lv_bipush (v := 41) hx hb d_Arit_quotient_19 (by decide) ?_
      refine lv_icmp_eq (tgt := 30) hx hb d_Arit_quotient_21 (by decide) (fun c_21 => ?_) (fun c_21 => ?_)
      · skip
        refine lv_iconst (v := 1) hx hb d_Arit_quotient_30 (by decide) ?_
        refine lv_goto (tgt := 35) hx hb d_Arit_quotient_31 (by decide) ?_
        refine lv_istore (lv' := [(4, .int 1), (3, .int 0), (0, .int x0), (1, .int x1), (2, .int x2)]) hx hb d_Arit_quotient_35 hl (by decide) rfl (fun ls hl => ?_)
        refine lv_iload hx hb d_Arit_quotient_37 (lv_at hl 0 rfl) ?_
        refine lv_if_eq (tgt := 47) hx hb d_Arit_quotient_39 (by decide) (fun c_39 => absurd c_39 (by decide)) (fun c_39 => ?_)
        refine lv_iload_n hx hb d_Arit_quotient_42 rfl (lv_at hl 3 rfl) ?_
        refine lv_i2l (v := x1.toInt64) hx hb d_Arit_quotient_43 rfl ?_
        refine lv_goto (tgt := 53) hx hb d_Arit_quotient_44 (by decide) ?_
        refine lv_lstore (lv' := [(5, .long x1.toInt64), (4, .int 1), (3, .int 0), (0, .int x0), (1, .int x1), (2, .int x2)]) hx hb d_Arit_quotient_53 hl (by decide) rfl (fun ls hl => ?_)
        refine lv_iload hx hb d_Arit_quotient_55 (lv_at hl 1 rfl) ?_
        refine lv_if_eq (tgt := 65) hx hb d_Arit_quotient_57 (by decide) (fun c_57 => absurd c_57 (by decide)) (fun c_57 => ?_)
        refine lv_iload_n hx hb d_Arit_quotient_60 rfl (lv_at hl 5 rfl) ?_
        refine lv_i2l (v := x2.toInt64) hx hb d_Arit_quotient_61 rfl ?_
        refine lv_goto (tgt := 71) hx hb d_Arit_quotient_62 (by decide) ?_
        refine lv_lstore (lv' := [(7, .long x2.toInt64), (5, .long x1.toInt64), (4, .int 1), (3, .int 0), (0, .int x0), (1, .int x1), (2, .int x2)]) hx hb d_Arit_quotient_71 hl (by decide) rfl (fun ls hl => ?_)
        refine lv_lload hx hb d_Arit_quotient_73 (lv_at hl 0 rfl) ?_
        refine lv_lconst (v := 0) hx hb d_Arit_quotient_75 (by decide) ?_
        refine W.lcmp hx hb d_Arit_quotient_76 ?_
        refine lv_if_ne (tgt := 90) hx hb d_Arit_quotient_77 (by decide) (fun c_77 => ?_) (fun c_77 => ?_)
        · skip
          refine lv_iload_n hx hb d_Arit_quotient_90 rfl (lv_at hl 3 rfl) ?_
          refine lv_if_eq (tgt := 102) hx hb d_Arit_quotient_91 (by decide) (fun c_91 => ?_) (fun c_91 => absurd c_91 (by decide))
          refine lv_lload hx hb d_Arit_quotient_102 (lv_at hl 1 rfl) ?_
          refine lv_lload hx hb d_Arit_quotient_104 (lv_at hl 0 rfl) ?_
          refine lv_ldiv hx hb d_Arit_quotient_106 (ob_lcmp c_77) ?_
          refine lv_l2i (v := (x1.toInt64 / x2.toInt64).toInt32) hx hb d_Arit_quotient_107 rfl ?_
          exact W.iret (v := (x1.toInt64 / x2.toInt64).toInt32) hx hb hr (fun t ht hW => ⟨_, rfl, by rw [cF_Arithmetic_quotient, if_neg c_3, if_neg c_9, if_pos c_21, if_neg c_77], ht⟩) (fun q h => by cases h) d_Arit_quotient_108
        · skip
          refine lv_iload_n hx hb d_Arit_quotient_80 rfl (lv_at hl 3 rfl) ?_
          refine lv_if_eq (tgt := 88) hx hb d_Arit_quotient_81 (by decide) (fun c_81 => ?_) (fun c_81 => absurd c_81 (by decide))
          refine lv_iconst (v := (-1)) hx hb d_Arit_quotient_88 (by decide) ?_
          exact W.iret (v := (-1)) hx hb hr (fun t ht hW => ⟨_, rfl, by rw [cF_Arithmetic_quotient, if_neg c_3, if_neg c_9, if_pos c_21, if_pos c_77], ht⟩) (fun q h => by cases h) d_Arit_quotient_89
      · skip
        refine lv_iload_n hx hb d_Arit_quotient_24 rfl (lv_at hl 1 rfl) ?_
        refine lv_bipush (v := 43) hx hb d_Arit_quotient_25 (by decide) ?_
        refine lv_icmp_ne (tgt := 34) hx hb d_Arit_quotient_27 (by decide) (fun c_27 => ?_) (fun c_27 => absurd c_27 c_3)
        refine lv_iconst (v := 0) hx hb d_Arit_quotient_34 (by decide) ?_
        refine lv_istore (lv' := [(4, .int 0), (3, .int 0), (0, .int x0), (1, .int x1), (2, .int x2)]) hx hb d_Arit_quotient_35 hl (by decide) rfl (fun ls hl => ?_)
        refine lv_iload hx hb d_Arit_quotient_37 (lv_at hl 0 rfl) ?_
        refine lv_if_eq (tgt := 47) hx hb d_Arit_quotient_39 (by decide) (fun c_39 => ?_) (fun c_39 => absurd c_39 (by decide))
        refine lv_iload_n hx hb d_Arit_quotient_47 rfl (lv_at hl 3 rfl) ?_
        refine lv_i2l (v := x1.toInt64) hx hb d_Arit_quotient_48 rfl ?_
        refine lv_ldc2 (v := 4294967295) hx hb hown (hts _ a_511) d_Arit_quotient_49 ?_
        refine lv_land hx hb d_Arit_quotient_52 ?_
        refine lv_lstore (lv' := [(5, .long (x1.toInt64 &&& 4294967295)), (4, .int 0), (3, .int 0), (0, .int x0), (1, .int x1), (2, .int x2)]) hx hb d_Arit_quotient_53 hl (by decide) rfl (fun ls hl => ?_)
        refine lv_iload hx hb d_Arit_quotient_55 (lv_at hl 1 rfl) ?_
        refine lv_if_eq (tgt := 65) hx hb d_Arit_quotient_57 (by decide) (fun c_57 => ?_) (fun c_57 => absurd c_57 (by decide))
        refine lv_iload_n hx hb d_Arit_quotient_65 rfl (lv_at hl 5 rfl) ?_
        refine lv_i2l (v := x2.toInt64) hx hb d_Arit_quotient_66 rfl ?_
        refine lv_ldc2 (v := 4294967295) hx hb hown (hts _ a_511) d_Arit_quotient_67 ?_
        refine lv_land hx hb d_Arit_quotient_70 ?_
        refine lv_lstore (lv' := [(7, .long (x2.toInt64 &&& 4294967295)), (5, .long (x1.toInt64 &&& 4294967295)), (4, .int 0), (3, .int 0), (0, .int x0), (1, .int x1), (2, .int x2)]) hx hb d_Arit_quotient_71 hl (by decide) rfl (fun ls hl => ?_)
        refine lv_lload hx hb d_Arit_quotient_73 (lv_at hl 0 rfl) ?_
        refine lv_lconst (v := 0) hx hb d_Arit_quotient_75 (by decide) ?_
        refine W.lcmp hx hb d_Arit_quotient_76 ?_
        refine lv_if_ne (tgt := 90) hx hb d_Arit_quotient_77 (by decide) (fun c_77 => ?_) (fun c_77 => ?_)
        · skip
          refine lv_iload_n hx hb d_Arit_quotient_90 rfl (lv_at hl 3 rfl) ?_
          refine lv_if_eq (tgt := 102) hx hb d_Arit_quotient_91 (by decide) (fun c_91 => ?_) (fun c_91 => absurd c_91 (by decide))
          refine lv_lload hx hb d_Arit_quotient_102 (lv_at hl 1 rfl) ?_
          refine lv_lload hx hb d_Arit_quotient_104 (lv_at hl 0 rfl) ?_
          refine lv_ldiv hx hb d_Arit_quotient_106 (ob_lcmp c_77) ?_
          refine lv_l2i (v := ((x1.toInt64 &&& 4294967295) / (x2.toInt64 &&& 4294967295)).toInt32) hx hb d_Arit_quotient_107 rfl ?_
          exact W.iret (v := ((x1.toInt64 &&& 4294967295) / (x2.toInt64 &&& 4294967295)).toInt32) hx hb hr (fun t ht hW => ⟨_, rfl, by rw [cF_Arithmetic_quotient, if_neg c_3, if_neg c_9, if_neg c_21, if_neg c_77], ht⟩) (fun q h => by cases h) d_Arit_quotient_108
        · skip
          refine lv_iload_n hx hb d_Arit_quotient_80 rfl (lv_at hl 3 rfl) ?_
          refine lv_if_eq (tgt := 88) hx hb d_Arit_quotient_81 (by decide) (fun c_81 => ?_) (fun c_81 => absurd c_81 (by decide))
          refine lv_iconst (v := (-1)) hx hb d_Arit_quotient_88 (by decide) ?_
          exact W.iret (v := (-1)) hx hb hr (fun t ht hW => ⟨_, rfl, by rw [cF_Arithmetic_quotient, if_neg c_3, if_neg c_9, if_neg c_21, if_pos c_77], ht⟩) (fun q h => by cases h) d_Arit_quotient_89
    · skip
      refine lv_iconst (v := 1) hx hb d_Arit_quotient_12 (by decide) ?_
      refine lv_goto (tgt := 17) hx hb d_Arit_quotient_13 (by decide) ?_
      refine lv_istore_n (lv' := [(3, .int 1), (0, .int x0), (1, .int x1), (2, .int x2)]) hx hb d_Arit_quotient_17 rfl hl (by decide) rfl (fun ls hl => ?_)
      refine lv_iload_n hx hb d_Arit_quotient_18 rfl (lv_at hl 1 rfl) ?_
      refine lv_bipush (v := 41) hx hb d_Arit_quotient_19 (by decide) ?_
      refine lv_icmp_eq (tgt := 30) hx hb d_Arit_quotient_21 (by decide) (fun c_21 => absurd c_21 (by rw [c_9]; decide)) (fun c_21 => ?_)
      refine lv_iload_n hx hb d_Arit_quotient_24 rfl (lv_at hl 1 rfl) ?_
      refine lv_bipush (v := 43) hx hb d_Arit_quotient_25 (by decide) ?_
      refine lv_icmp_ne (tgt := 34) hx hb d_Arit_quotient_27 (by decide) (fun c_27 => ?_) (fun c_27 => absurd c_27 c_3)
      refine lv_iconst (v := 0) hx hb d_Arit_quotient_34 (by decide) ?_
      refine lv_istore (lv' := [(4, .int 0), (3, .int 1), (0, .int x0), (1, .int x1), (2, .int x2)]) hx hb d_Arit_quotient_35 hl (by decide) rfl (fun ls hl => ?_)
      refine lv_iload hx hb d_Arit_quotient_37 (lv_at hl 0 rfl) ?_
      refine lv_if_eq (tgt := 47) hx hb d_Arit_quotient_39 (by decide) (fun c_39 => ?_) (fun c_39 => absurd c_39 (by decide))
      refine lv_iload_n hx hb d_Arit_quotient_47 rfl (lv_at hl 3 rfl) ?_
      refine lv_i2l (v := x1.toInt64) hx hb d_Arit_quotient_48 rfl ?_
      refine lv_ldc2 (v := 4294967295) hx hb hown (hts _ a_511) d_Arit_quotient_49 ?_
      refine lv_land hx hb d_Arit_quotient_52 ?_
      refine lv_lstore (lv' := [(5, .long (x1.toInt64 &&& 4294967295)), (4, .int 0), (3, .int 1), (0, .int x0), (1, .int x1), (2, .int x2)]) hx hb d_Arit_quotient_53 hl (by decide) rfl (fun ls hl => ?_)
      refine lv_iload hx hb d_Arit_quotient_55 (lv_at hl 1 rfl) ?_
      refine lv_if_eq (tgt := 65) hx hb d_Arit_quotient_57 (by decide) (fun c_57 => ?_) (fun c_57 => absurd c_57 (by decide))
      refine lv_iload_n hx hb d_Arit_quotient_65 rfl (lv_at hl 5 rfl) ?_
      refine lv_i2l (v := x2.toInt64) hx hb d_Arit_quotient_66 rfl ?_
      refine lv_ldc2 (v := 4294967295) hx hb hown (hts _ a_511) d_Arit_quotient_67 ?_
      refine lv_land hx hb d_Arit_quotient_70 ?_
      refine lv_lstore (lv' := [(7, .long (x2.toInt64 &&& 4294967295)), (5, .long (x1.toInt64 &&& 4294967295)), (4, .int 0), (3, .int 1), (0, .int x0), (1, .int x1), (2, .int x2)]) hx hb d_Arit_quotient_71 hl (by decide) rfl (fun ls hl => ?_)
      refine lv_lload hx hb d_Arit_quotient_73 (lv_at hl 0 rfl) ?_
      refine lv_lconst (v := 0) hx hb d_Arit_quotient_75 (by decide) ?_
      refine W.lcmp hx hb d_Arit_quotient_76 ?_
      refine lv_if_ne (tgt := 90) hx hb d_Arit_quotient_77 (by decide) (fun c_77 => ?_) (fun c_77 => ?_)
      · skip
        refine lv_iload_n hx hb d_Arit_quotient_90 rfl (lv_at hl 3 rfl) ?_
        refine lv_if_eq (tgt := 102) hx hb d_Arit_quotient_91 (by decide) (fun c_91 => absurd c_91 (by decide)) (fun c_91 => ?_)
        refine lv_lload hx hb d_Arit_quotient_94 (lv_at hl 1 rfl) ?_
        refine lv_lload hx hb d_Arit_quotient_96 (lv_at hl 0 rfl) ?_
        refine lv_lrem hx hb d_Arit_quotient_98 (ob_lcmp c_77) ?_
        refine lv_goto (tgt := 107) hx hb d_Arit_quotient_99 (by decide) ?_
        refine lv_l2i (v := ((x1.toInt64 &&& 4294967295) - (x1.toInt64 &&& 4294967295) / (x2.toInt64 &&& 4294967295) * (x2.toInt64 &&& 4294967295)).toInt32) hx hb d_Arit_quotient_107 rfl ?_
        exact W.iret (v := ((x1.toInt64 &&& 4294967295) - (x1.toInt64 &&& 4294967295) / (x2.toInt64 &&& 4294967295) * (x2.toInt64 &&& 4294967295)).toInt32) hx hb hr (fun t ht hW => ⟨_, rfl, by rw [cF_Arithmetic_quotient, if_neg c_3, if_pos c_9, if_neg c_77], ht⟩) (fun q h => by cases h) d_Arit_quotient_108
      · skip
        refine lv_iload_n hx hb d_Arit_quotient_80 rfl (lv_at hl 3 rfl) ?_
        refine lv_if_eq (tgt := 88) hx hb d_Arit_quotient_81 (by decide) (fun c_81 => absurd c_81 (by decide)) (fun c_81 => ?_)
        refine lv_iload_n hx hb d_Arit_quotient_84 rfl (lv_at hl 5 rfl) ?_
        refine lv_goto (tgt := 89) hx hb d_Arit_quotient_85 (by decide) ?_
        exact W.iret (v := x1) hx hb hr (fun t ht hW => ⟨_, rfl, by rw [cF_Arithmetic_quotient, if_neg c_3, if_pos c_9, if_pos c_77], ht⟩) (fun q h => by cases h) d_Arit_quotient_89
def cF_Arithmetic_product (x0 : Int32) (x1 : Int32) (x2 : Int32) : Int32 := (if x0 = 37 then (x1 * x2) else (if x0 = 38 then (j_lshr (x1.toInt64 * x2.toInt64) 32).toInt32 else (if x0 = 39 then (j_lshr (x1.toInt64 * (x2.toInt64 &&& 4294967295)) 32).toInt32 else (if x0 = 40 then (j_lushr ((x1.toInt64 &&& 4294967295) * (x2.toInt64 &&& 4294967295)) 32).toInt32 else (cF_Arithmetic_quotient x0 x1 x2)))))
set_option maxHeartbeats 4000000 in
set_option maxRecDepth 100000 in
theorem cc_Arithmetic_product (l : Launch) (D : va_G) (tc : Nat → ClassId) (tb : Nat → Nat) (z0 : Nat) (x0 : Int32) (x1 : Int32) (x2 : Int32) : Met l y_Arit_product (wM y_Arit_product b_Arit_product 3 (some .int)) ({ frames := 1, cells := 0, slots := 0, locals := 28 }) (va_Pc [.int x0, .int x1, .int x2] (Pr D tc tb z0 [])) (vp_Si (fun r => r = (cF_Arithmetic_product x0 x1 x2))) 0 0 (fun _ => False) := by
  refine Met.ofW (cc := b_Arit_product) (maxL := 3) (ret := (some .int)) (by decide) rfl ?_
  intro p e s m args below meth c s₁ B hml hv
  obtain ⟨rfl, hP, hK, hB⟩ := hv
  have hx := B.exec
  have hb := B.bytes
  have hr := B.returns
  have hts : ∀ w ∈ wALL, w.before _ s = true := fun w h => atoms_spec (ws := (wM y_Arit_product b_Arit_product 3 (some .int))) B.pre w (List.mem_cons_of_mem _ h)
  have hown : s.vm.findClass "StepMachine$Arithmetic" = some m.cls := findClass_of_methodNamed B.named
  have hlocks := B.notSynchronized
  have hl := lv_entry ([.int x0, .int x1, .int x2]) (n := 3) (Nat.le_of_ble_eq_true rfl)
  rw [lg_entry_eq]
  generalize (lg_sl ([.int x0, .int x1, .int x2]) ++ List.replicate (3 - (lg_sl ([.int x0, .int x1, .int x2])).length) Slot.unset).toArray = ls at hl ⊢
  have hl : lv_has ls 3 [(0, .int x0), (1, .int x1), (2, .int x2)] := hl
  refine lv_iload_n hx hb d_Arit_product_0 rfl (lv_at hl 0 rfl) ?_
  by_cases c_1_0 : x0 = 37
  · skip
    refine lv_tableIn (tgt := 32) hx hb d_Arit_product_1 (by rw [c_1_0]; decide) (by rw [c_1_0]; decide) (by rw [c_1_0] <;> rfl) (by decide) ?_
    refine lv_iload_n hx hb d_Arit_product_32 rfl (lv_at hl 1 rfl) ?_
    refine lv_iload_n hx hb d_Arit_product_33 rfl (lv_at hl 2 rfl) ?_
    refine lv_imul hx hb d_Arit_product_34 ?_
    exact W.iret (v := (x1 * x2)) hx hb hr (fun t ht hW => ⟨_, rfl, by rw [cF_Arithmetic_product, if_pos c_1_0], ht⟩) (fun q h => by cases h) d_Arit_product_35
  · skip
    by_cases c_1_1 : x0 = 38
    · skip
      refine lv_tableIn (tgt := 36) hx hb d_Arit_product_1 (by rw [c_1_1]; decide) (by rw [c_1_1]; decide) (by rw [c_1_1] <;> rfl) (by decide) ?_
      refine lv_iload_n hx hb d_Arit_product_36 rfl (lv_at hl 1 rfl) ?_
      refine lv_i2l (v := x1.toInt64) hx hb d_Arit_product_37 rfl ?_
      refine lv_iload_n hx hb d_Arit_product_38 rfl (lv_at hl 2 rfl) ?_
      refine lv_i2l (v := x2.toInt64) hx hb d_Arit_product_39 rfl ?_
      refine lv_lmul hx hb d_Arit_product_40 ?_
      refine lv_bipush (v := 32) hx hb d_Arit_product_41 (by decide) ?_
      refine lv_lshr (v := (j_lshr (x1.toInt64 * x2.toInt64) 32)) hx hb d_Arit_product_43 rfl ?_
      refine lv_l2i (v := (j_lshr (x1.toInt64 * x2.toInt64) 32).toInt32) hx hb d_Arit_product_44 rfl ?_
      exact W.iret (v := (j_lshr (x1.toInt64 * x2.toInt64) 32).toInt32) hx hb hr (fun t ht hW => ⟨_, rfl, by rw [cF_Arithmetic_product, if_neg c_1_0, if_pos c_1_1], ht⟩) (fun q h => by cases h) d_Arit_product_45
    · skip
      by_cases c_1_2 : x0 = 39
      · skip
        refine lv_tableIn (tgt := 46) hx hb d_Arit_product_1 (by rw [c_1_2]; decide) (by rw [c_1_2]; decide) (by rw [c_1_2] <;> rfl) (by decide) ?_
        refine lv_iload_n hx hb d_Arit_product_46 rfl (lv_at hl 1 rfl) ?_
        refine lv_i2l (v := x1.toInt64) hx hb d_Arit_product_47 rfl ?_
        refine lv_iload_n hx hb d_Arit_product_48 rfl (lv_at hl 2 rfl) ?_
        refine lv_i2l (v := x2.toInt64) hx hb d_Arit_product_49 rfl ?_
        refine lv_ldc2 (v := 4294967295) hx hb hown (hts _ a_511) d_Arit_product_50 ?_
        refine lv_land hx hb d_Arit_product_53 ?_
        refine lv_lmul hx hb d_Arit_product_54 ?_
        refine lv_bipush (v := 32) hx hb d_Arit_product_55 (by decide) ?_
        refine lv_lshr (v := (j_lshr (x1.toInt64 * (x2.toInt64 &&& 4294967295)) 32)) hx hb d_Arit_product_57 rfl ?_
        refine lv_l2i (v := (j_lshr (x1.toInt64 * (x2.toInt64 &&& 4294967295)) 32).toInt32) hx hb d_Arit_product_58 rfl ?_
        exact W.iret (v := (j_lshr (x1.toInt64 * (x2.toInt64 &&& 4294967295)) 32).toInt32) hx hb hr (fun t ht hW => ⟨_, rfl, by rw [cF_Arithmetic_product, if_neg c_1_0, if_neg c_1_1, if_pos c_1_2], ht⟩) (fun q h => by cases h) d_Arit_product_59
      · skip
        by_cases c_1_3 : x0 = 40
        · skip
          refine lv_tableIn (tgt := 60) hx hb d_Arit_product_1 (by rw [c_1_3]; decide) (by rw [c_1_3]; decide) (by rw [c_1_3] <;> rfl) (by decide) ?_
          refine lv_iload_n hx hb d_Arit_product_60 rfl (lv_at hl 1 rfl) ?_
          refine lv_i2l (v := x1.toInt64) hx hb d_Arit_product_61 rfl ?_
          refine lv_ldc2 (v := 4294967295) hx hb hown (hts _ a_511) d_Arit_product_62 ?_
          refine lv_land hx hb d_Arit_product_65 ?_
          refine lv_iload_n hx hb d_Arit_product_66 rfl (lv_at hl 2 rfl) ?_
          refine lv_i2l (v := x2.toInt64) hx hb d_Arit_product_67 rfl ?_
          refine lv_ldc2 (v := 4294967295) hx hb hown (hts _ a_511) d_Arit_product_68 ?_
          refine lv_land hx hb d_Arit_product_71 ?_
          refine lv_lmul hx hb d_Arit_product_72 ?_
          refine lv_bipush (v := 32) hx hb d_Arit_product_73 (by decide) ?_
          refine lv_lushr (v := (j_lushr ((x1.toInt64 &&& 4294967295) * (x2.toInt64 &&& 4294967295)) 32)) hx hb d_Arit_product_75 rfl ?_
          refine lv_l2i (v := (j_lushr ((x1.toInt64 &&& 4294967295) * (x2.toInt64 &&& 4294967295)) 32).toInt32) hx hb d_Arit_product_76 rfl ?_
          exact W.iret (v := (j_lushr ((x1.toInt64 &&& 4294967295) * (x2.toInt64 &&& 4294967295)) 32).toInt32) hx hb hr (fun t ht hW => ⟨_, rfl, by rw [cF_Arithmetic_product, if_neg c_1_0, if_neg c_1_1, if_neg c_1_2, if_pos c_1_3], ht⟩) (fun q h => by cases h) d_Arit_product_77
        · skip
          refine lv_tableOut (tgt := 78) hx hb d_Arit_product_1 (by have n_0 := lv_neT (a := 37) c_1_0 (by decide); have n_1 := lv_neT (a := 38) c_1_1 (by decide); have n_2 := lv_neT (a := 39) c_1_2 (by decide); have n_3 := lv_neT (a := 40) c_1_3 (by decide); omega) (by decide) ?_
          refine lv_iload_n hx hb d_Arit_product_78 rfl (lv_at hl 0 rfl) ?_
          refine lv_iload_n hx hb d_Arit_product_79 rfl (lv_at hl 1 rfl) ?_
          refine lv_iload_n hx hb d_Arit_product_80 rfl (lv_at hl 2 rfl) ?_
          refine roSi (As := [.int x0, .int x1, .int x2]) (rest := []) ⟨hx, hb, hml, hown, hts⟩ (cc_Arithmetic_quotient l D tc tb z0 x0 x1 x2) (va_cwS 3 hts (goodS a_543 a_544 a_14 a_545) rfl rfl rfl hs_Arit_quotient ⟨Nat.le_of_ble_eq_true rfl, Nat.le_of_ble_eq_true rfl⟩) (hP.sub [] rfl) hK hB rfl hl.1 rfl (Nat.le_of_ble_eq_true rfl) d_Arit_product_81 ⟨Nat.zero_le _, Nat.zero_le _⟩ ?_
          exact W.iret (v := (cF_Arithmetic_quotient x0 x1 x2)) hx hb hr (fun t ht hW => ⟨_, rfl, by rw [cF_Arithmetic_product, if_neg c_1_0, if_neg c_1_1, if_neg c_1_2, if_neg c_1_3], ht⟩) (fun q h => by cases h) d_Arit_product_84
def cF_Arithmetic_result (x0 : Int32) (x1 : Int32) (x2 : Int32) : Int32 := (if x0 = 18 then (x1 + x2) else (if x0 = 19 then (if x2 ≤ x1 then 0 else 1) else (if x0 = 20 then (if (cF_Arithmetic_isBelow x1 x2) = 0 then 0 else 1) else (if x0 = 21 then (x1 ^^^ x2) else (if x0 = 22 then (x1 ||| x2) else (if x0 = 23 then (x1 &&& x2) else (if x0 = 24 then (x1 <<< ((x2 &&& 31) &&& 31)) else (if x0 = 25 then (j_ushr x1 (x2 &&& 31)) else (if x0 = 26 then (x1 >>> ((x2 &&& 31) &&& 31)) else (if x0 = 27 then (x1 + x2) else (if x0 = 28 then (x1 - x2) else (if x0 = 29 then (x1 <<< ((x2 &&& 31) &&& 31)) else (if x0 = 30 then (if x2 ≤ x1 then 0 else 1) else (if x0 = 31 then (if (cF_Arithmetic_isBelow x1 x2) = 0 then 0 else 1) else (if x0 = 32 then (x1 ^^^ x2) else (if x0 = 33 then (j_ushr x1 (x2 &&& 31)) else (if x0 = 34 then (x1 >>> ((x2 &&& 31) &&& 31)) else (if x0 = 35 then (x1 ||| x2) else (if x0 = 36 then (x1 &&& x2) else (cF_Arithmetic_product x0 x1 x2))))))))))))))))))))
set_option maxHeartbeats 4000000 in
set_option maxRecDepth 100000 in
theorem cc_Arithmetic_result (l : Launch) (D : va_G) (tc : Nat → ClassId) (tb : Nat → Nat) (z0 : Nat) (x0 : Int32) (x1 : Int32) (x2 : Int32) : Met l y_Arit_result (wM y_Arit_result b_Arit_result 3 (some .int)) ({ frames := 2, cells := 0, slots := 0, locals := 50 }) (va_Pc [.int x0, .int x1, .int x2] (Pr D tc tb z0 [])) (vp_Si (fun r => r = (cF_Arithmetic_result x0 x1 x2))) 0 0 (fun _ => False) := by
  refine Met.ofW (cc := b_Arit_result) (maxL := 3) (ret := (some .int)) (by decide) rfl ?_
  intro p e s m args below meth c s₁ B hml hv
  obtain ⟨rfl, hP, hK, hB⟩ := hv
  have hx := B.exec
  have hb := B.bytes
  have hr := B.returns
  have hts : ∀ w ∈ wALL, w.before _ s = true := fun w h => atoms_spec (ws := (wM y_Arit_result b_Arit_result 3 (some .int))) B.pre w (List.mem_cons_of_mem _ h)
  have hown : s.vm.findClass "StepMachine$Arithmetic" = some m.cls := findClass_of_methodNamed B.named
  have hlocks := B.notSynchronized
  have hl := lv_entry ([.int x0, .int x1, .int x2]) (n := 3) (Nat.le_of_ble_eq_true rfl)
  rw [lg_entry_eq]
  generalize (lg_sl ([.int x0, .int x1, .int x2]) ++ List.replicate (3 - (lg_sl ([.int x0, .int x1, .int x2])).length) Slot.unset).toArray = ls at hl ⊢
  have hl : lv_has ls 3 [(0, .int x0), (1, .int x1), (2, .int x2)] := hl
  refine lv_iload_n hx hb d_Arit_result_0 rfl (lv_at hl 0 rfl) ?_
  by_cases c_1_0 : x0 = 18
  · skip
    refine lv_tableIn (tgt := 92) hx hb d_Arit_result_1 (by rw [c_1_0]; decide) (by rw [c_1_0]; decide) (by rw [c_1_0] <;> rfl) (by decide) ?_
    refine lv_iload_n hx hb d_Arit_result_92 rfl (lv_at hl 1 rfl) ?_
    refine lv_iload_n hx hb d_Arit_result_93 rfl (lv_at hl 2 rfl) ?_
    refine lv_iadd hx hb d_Arit_result_94 ?_
    exact W.iret (v := (x1 + x2)) hx hb hr (fun t ht hW => ⟨_, rfl, by rw [cF_Arithmetic_result, if_pos c_1_0], ht⟩) (fun q h => by cases h) d_Arit_result_95
  · skip
    by_cases c_1_1 : x0 = 19
    · skip
      refine lv_tableIn (tgt := 100) hx hb d_Arit_result_1 (by rw [c_1_1]; decide) (by rw [c_1_1]; decide) (by rw [c_1_1] <;> rfl) (by decide) ?_
      refine lv_iload_n hx hb d_Arit_result_100 rfl (lv_at hl 1 rfl) ?_
      refine lv_iload_n hx hb d_Arit_result_101 rfl (lv_at hl 2 rfl) ?_
      refine lv_icmp_ge (tgt := 109) hx hb d_Arit_result_102 (by decide) (fun c_102 => ?_) (fun c_102 => ?_)
      · skip
        refine lv_iconst (v := 0) hx hb d_Arit_result_109 (by decide) ?_
        exact W.iret (v := 0) hx hb hr (fun t ht hW => ⟨_, rfl, by rw [cF_Arithmetic_result, if_neg c_1_0, if_pos c_1_1, if_pos c_102], ht⟩) (fun q h => by cases h) d_Arit_result_110
      · skip
        refine lv_iconst (v := 1) hx hb d_Arit_result_105 (by decide) ?_
        refine lv_goto (tgt := 110) hx hb d_Arit_result_106 (by decide) ?_
        exact W.iret (v := 1) hx hb hr (fun t ht hW => ⟨_, rfl, by rw [cF_Arithmetic_result, if_neg c_1_0, if_pos c_1_1, if_neg c_102], ht⟩) (fun q h => by cases h) d_Arit_result_110
    · skip
      by_cases c_1_2 : x0 = 20
      · skip
        refine lv_tableIn (tgt := 111) hx hb d_Arit_result_1 (by rw [c_1_2]; decide) (by rw [c_1_2]; decide) (by rw [c_1_2] <;> rfl) (by decide) ?_
        refine lv_iload_n hx hb d_Arit_result_111 rfl (lv_at hl 1 rfl) ?_
        refine lv_iload_n hx hb d_Arit_result_112 rfl (lv_at hl 2 rfl) ?_
        refine roSi (As := [.int x1, .int x2]) (rest := []) ⟨hx, hb, hml, hown, hts⟩ (cc_Arithmetic_isBelow l D tc tb z0 x1 x2) (va_cwS 2 hts (goodS a_508 a_509 a_14 a_510) rfl rfl rfl hs_Arit_isBelow ⟨Nat.le_of_ble_eq_true rfl, Nat.le_of_ble_eq_true rfl⟩) (hP.sub [] rfl) hK hB rfl hl.1 rfl (Nat.le_of_ble_eq_true rfl) d_Arit_result_113 ⟨Nat.zero_le _, Nat.zero_le _⟩ ?_
        refine lv_if_eq (tgt := 123) hx hb d_Arit_result_116 (by decide) (fun c_116 => ?_) (fun c_116 => ?_)
        · skip
          refine lv_iconst (v := 0) hx hb d_Arit_result_123 (by decide) ?_
          exact W.iret (v := 0) hx hb hr (fun t ht hW => ⟨_, rfl, by rw [cF_Arithmetic_result, if_neg c_1_0, if_neg c_1_1, if_pos c_1_2, if_pos c_116], ht⟩) (fun q h => by cases h) d_Arit_result_124
        · skip
          refine lv_iconst (v := 1) hx hb d_Arit_result_119 (by decide) ?_
          refine lv_goto (tgt := 124) hx hb d_Arit_result_120 (by decide) ?_
          exact W.iret (v := 1) hx hb hr (fun t ht hW => ⟨_, rfl, by rw [cF_Arithmetic_result, if_neg c_1_0, if_neg c_1_1, if_pos c_1_2, if_neg c_116], ht⟩) (fun q h => by cases h) d_Arit_result_124
      · skip
        by_cases c_1_3 : x0 = 21
        · skip
          refine lv_tableIn (tgt := 125) hx hb d_Arit_result_1 (by rw [c_1_3]; decide) (by rw [c_1_3]; decide) (by rw [c_1_3] <;> rfl) (by decide) ?_
          refine lv_iload_n hx hb d_Arit_result_125 rfl (lv_at hl 1 rfl) ?_
          refine lv_iload_n hx hb d_Arit_result_126 rfl (lv_at hl 2 rfl) ?_
          refine lv_ixor hx hb d_Arit_result_127 ?_
          exact W.iret (v := (x1 ^^^ x2)) hx hb hr (fun t ht hW => ⟨_, rfl, by rw [cF_Arithmetic_result, if_neg c_1_0, if_neg c_1_1, if_neg c_1_2, if_pos c_1_3], ht⟩) (fun q h => by cases h) d_Arit_result_128
        · skip
          by_cases c_1_4 : x0 = 22
          · skip
            refine lv_tableIn (tgt := 129) hx hb d_Arit_result_1 (by rw [c_1_4]; decide) (by rw [c_1_4]; decide) (by rw [c_1_4] <;> rfl) (by decide) ?_
            refine lv_iload_n hx hb d_Arit_result_129 rfl (lv_at hl 1 rfl) ?_
            refine lv_iload_n hx hb d_Arit_result_130 rfl (lv_at hl 2 rfl) ?_
            refine lv_ior hx hb d_Arit_result_131 ?_
            exact W.iret (v := (x1 ||| x2)) hx hb hr (fun t ht hW => ⟨_, rfl, by rw [cF_Arithmetic_result, if_neg c_1_0, if_neg c_1_1, if_neg c_1_2, if_neg c_1_3, if_pos c_1_4], ht⟩) (fun q h => by cases h) d_Arit_result_132
          · skip
            by_cases c_1_5 : x0 = 23
            · skip
              refine lv_tableIn (tgt := 133) hx hb d_Arit_result_1 (by rw [c_1_5]; decide) (by rw [c_1_5]; decide) (by rw [c_1_5] <;> rfl) (by decide) ?_
              refine lv_iload_n hx hb d_Arit_result_133 rfl (lv_at hl 1 rfl) ?_
              refine lv_iload_n hx hb d_Arit_result_134 rfl (lv_at hl 2 rfl) ?_
              refine lv_iand hx hb d_Arit_result_135 ?_
              exact W.iret (v := (x1 &&& x2)) hx hb hr (fun t ht hW => ⟨_, rfl, by rw [cF_Arithmetic_result, if_neg c_1_0, if_neg c_1_1, if_neg c_1_2, if_neg c_1_3, if_neg c_1_4, if_pos c_1_5], ht⟩) (fun q h => by cases h) d_Arit_result_136
            · skip
              by_cases c_1_6 : x0 = 24
              · skip
                refine lv_tableIn (tgt := 137) hx hb d_Arit_result_1 (by rw [c_1_6]; decide) (by rw [c_1_6]; decide) (by rw [c_1_6] <;> rfl) (by decide) ?_
                refine lv_iload_n hx hb d_Arit_result_137 rfl (lv_at hl 1 rfl) ?_
                refine lv_iload_n hx hb d_Arit_result_138 rfl (lv_at hl 2 rfl) ?_
                refine lv_bipush (v := 31) hx hb d_Arit_result_139 (by decide) ?_
                refine lv_iand hx hb d_Arit_result_141 ?_
                refine lv_ishl hx hb d_Arit_result_142 ?_
                exact W.iret (v := (x1 <<< ((x2 &&& 31) &&& 31))) hx hb hr (fun t ht hW => ⟨_, rfl, by rw [cF_Arithmetic_result, if_neg c_1_0, if_neg c_1_1, if_neg c_1_2, if_neg c_1_3, if_neg c_1_4, if_neg c_1_5, if_pos c_1_6], ht⟩) (fun q h => by cases h) d_Arit_result_143
              · skip
                by_cases c_1_7 : x0 = 25
                · skip
                  refine lv_tableIn (tgt := 144) hx hb d_Arit_result_1 (by rw [c_1_7]; decide) (by rw [c_1_7]; decide) (by rw [c_1_7] <;> rfl) (by decide) ?_
                  refine lv_iload_n hx hb d_Arit_result_144 rfl (lv_at hl 1 rfl) ?_
                  refine lv_iload_n hx hb d_Arit_result_145 rfl (lv_at hl 2 rfl) ?_
                  refine lv_bipush (v := 31) hx hb d_Arit_result_146 (by decide) ?_
                  refine lv_iand hx hb d_Arit_result_148 ?_
                  refine lv_iushr (v := (j_ushr x1 (x2 &&& 31))) hx hb d_Arit_result_149 rfl ?_
                  exact W.iret (v := (j_ushr x1 (x2 &&& 31))) hx hb hr (fun t ht hW => ⟨_, rfl, by rw [cF_Arithmetic_result, if_neg c_1_0, if_neg c_1_1, if_neg c_1_2, if_neg c_1_3, if_neg c_1_4, if_neg c_1_5, if_neg c_1_6, if_pos c_1_7], ht⟩) (fun q h => by cases h) d_Arit_result_150
                · skip
                  by_cases c_1_8 : x0 = 26
                  · skip
                    refine lv_tableIn (tgt := 151) hx hb d_Arit_result_1 (by rw [c_1_8]; decide) (by rw [c_1_8]; decide) (by rw [c_1_8] <;> rfl) (by decide) ?_
                    refine lv_iload_n hx hb d_Arit_result_151 rfl (lv_at hl 1 rfl) ?_
                    refine lv_iload_n hx hb d_Arit_result_152 rfl (lv_at hl 2 rfl) ?_
                    refine lv_bipush (v := 31) hx hb d_Arit_result_153 (by decide) ?_
                    refine lv_iand hx hb d_Arit_result_155 ?_
                    refine lv_ishr hx hb d_Arit_result_156 ?_
                    exact W.iret (v := (x1 >>> ((x2 &&& 31) &&& 31))) hx hb hr (fun t ht hW => ⟨_, rfl, by rw [cF_Arithmetic_result, if_neg c_1_0, if_neg c_1_1, if_neg c_1_2, if_neg c_1_3, if_neg c_1_4, if_neg c_1_5, if_neg c_1_6, if_neg c_1_7, if_pos c_1_8], ht⟩) (fun q h => by cases h) d_Arit_result_157
                  · skip
                    by_cases c_1_9 : x0 = 27
                    · skip
                      refine lv_tableIn (tgt := 92) hx hb d_Arit_result_1 (by rw [c_1_9]; decide) (by rw [c_1_9]; decide) (by rw [c_1_9] <;> rfl) (by decide) ?_
                      refine lv_iload_n hx hb d_Arit_result_92 rfl (lv_at hl 1 rfl) ?_
                      refine lv_iload_n hx hb d_Arit_result_93 rfl (lv_at hl 2 rfl) ?_
                      refine lv_iadd hx hb d_Arit_result_94 ?_
                      exact W.iret (v := (x1 + x2)) hx hb hr (fun t ht hW => ⟨_, rfl, by rw [cF_Arithmetic_result, if_neg c_1_0, if_neg c_1_1, if_neg c_1_2, if_neg c_1_3, if_neg c_1_4, if_neg c_1_5, if_neg c_1_6, if_neg c_1_7, if_neg c_1_8, if_pos c_1_9], ht⟩) (fun q h => by cases h) d_Arit_result_95
                    · skip
                      by_cases c_1_10 : x0 = 28
                      · skip
                        refine lv_tableIn (tgt := 96) hx hb d_Arit_result_1 (by rw [c_1_10]; decide) (by rw [c_1_10]; decide) (by rw [c_1_10] <;> rfl) (by decide) ?_
                        refine lv_iload_n hx hb d_Arit_result_96 rfl (lv_at hl 1 rfl) ?_
                        refine lv_iload_n hx hb d_Arit_result_97 rfl (lv_at hl 2 rfl) ?_
                        refine lv_isub hx hb d_Arit_result_98 ?_
                        exact W.iret (v := (x1 - x2)) hx hb hr (fun t ht hW => ⟨_, rfl, by rw [cF_Arithmetic_result, if_neg c_1_0, if_neg c_1_1, if_neg c_1_2, if_neg c_1_3, if_neg c_1_4, if_neg c_1_5, if_neg c_1_6, if_neg c_1_7, if_neg c_1_8, if_neg c_1_9, if_pos c_1_10], ht⟩) (fun q h => by cases h) d_Arit_result_99
                      · skip
                        by_cases c_1_11 : x0 = 29
                        · skip
                          refine lv_tableIn (tgt := 137) hx hb d_Arit_result_1 (by rw [c_1_11]; decide) (by rw [c_1_11]; decide) (by rw [c_1_11] <;> rfl) (by decide) ?_
                          refine lv_iload_n hx hb d_Arit_result_137 rfl (lv_at hl 1 rfl) ?_
                          refine lv_iload_n hx hb d_Arit_result_138 rfl (lv_at hl 2 rfl) ?_
                          refine lv_bipush (v := 31) hx hb d_Arit_result_139 (by decide) ?_
                          refine lv_iand hx hb d_Arit_result_141 ?_
                          refine lv_ishl hx hb d_Arit_result_142 ?_
                          exact W.iret (v := (x1 <<< ((x2 &&& 31) &&& 31))) hx hb hr (fun t ht hW => ⟨_, rfl, by rw [cF_Arithmetic_result, if_neg c_1_0, if_neg c_1_1, if_neg c_1_2, if_neg c_1_3, if_neg c_1_4, if_neg c_1_5, if_neg c_1_6, if_neg c_1_7, if_neg c_1_8, if_neg c_1_9, if_neg c_1_10, if_pos c_1_11], ht⟩) (fun q h => by cases h) d_Arit_result_143
                        · skip
                          by_cases c_1_12 : x0 = 30
                          · skip
                            refine lv_tableIn (tgt := 100) hx hb d_Arit_result_1 (by rw [c_1_12]; decide) (by rw [c_1_12]; decide) (by rw [c_1_12] <;> rfl) (by decide) ?_
                            refine lv_iload_n hx hb d_Arit_result_100 rfl (lv_at hl 1 rfl) ?_
                            refine lv_iload_n hx hb d_Arit_result_101 rfl (lv_at hl 2 rfl) ?_
                            refine lv_icmp_ge (tgt := 109) hx hb d_Arit_result_102 (by decide) (fun c_102 => ?_) (fun c_102 => ?_)
                            · skip
                              refine lv_iconst (v := 0) hx hb d_Arit_result_109 (by decide) ?_
                              exact W.iret (v := 0) hx hb hr (fun t ht hW => ⟨_, rfl, by rw [cF_Arithmetic_result, if_neg c_1_0, if_neg c_1_1, if_neg c_1_2, if_neg c_1_3, if_neg c_1_4, if_neg c_1_5, if_neg c_1_6, if_neg c_1_7, if_neg c_1_8, if_neg c_1_9, if_neg c_1_10, if_neg c_1_11, if_pos c_1_12, if_pos c_102], ht⟩) (fun q h => by cases h) d_Arit_result_110
                            · skip
                              refine lv_iconst (v := 1) hx hb d_Arit_result_105 (by decide) ?_
                              refine lv_goto (tgt := 110) hx hb d_Arit_result_106 (by decide) ?_
                              exact W.iret (v := 1) hx hb hr (fun t ht hW => ⟨_, rfl, by rw [cF_Arithmetic_result, if_neg c_1_0, if_neg c_1_1, if_neg c_1_2, if_neg c_1_3, if_neg c_1_4, if_neg c_1_5, if_neg c_1_6, if_neg c_1_7, if_neg c_1_8, if_neg c_1_9, if_neg c_1_10, if_neg c_1_11, if_pos c_1_12, if_neg c_102], ht⟩) (fun q h => by cases h) d_Arit_result_110
                          · skip
                            by_cases c_1_13 : x0 = 31
                            · skip
                              refine lv_tableIn (tgt := 111) hx hb d_Arit_result_1 (by rw [c_1_13]; decide) (by rw [c_1_13]; decide) (by rw [c_1_13] <;> rfl) (by decide) ?_
                              refine lv_iload_n hx hb d_Arit_result_111 rfl (lv_at hl 1 rfl) ?_
                              refine lv_iload_n hx hb d_Arit_result_112 rfl (lv_at hl 2 rfl) ?_
                              refine roSi (As := [.int x1, .int x2]) (rest := []) ⟨hx, hb, hml, hown, hts⟩ (cc_Arithmetic_isBelow l D tc tb z0 x1 x2) (va_cwS 2 hts (goodS a_508 a_509 a_14 a_510) rfl rfl rfl hs_Arit_isBelow ⟨Nat.le_of_ble_eq_true rfl, Nat.le_of_ble_eq_true rfl⟩) (hP.sub [] rfl) hK hB rfl hl.1 rfl (Nat.le_of_ble_eq_true rfl) d_Arit_result_113 ⟨Nat.zero_le _, Nat.zero_le _⟩ ?_
                              refine lv_if_eq (tgt := 123) hx hb d_Arit_result_116 (by decide) (fun c_116 => ?_) (fun c_116 => ?_)
                              · skip
                                refine lv_iconst (v := 0) hx hb d_Arit_result_123 (by decide) ?_
                                exact W.iret (v := 0) hx hb hr (fun t ht hW => ⟨_, rfl, by rw [cF_Arithmetic_result, if_neg c_1_0, if_neg c_1_1, if_neg c_1_2, if_neg c_1_3, if_neg c_1_4, if_neg c_1_5, if_neg c_1_6, if_neg c_1_7, if_neg c_1_8, if_neg c_1_9, if_neg c_1_10, if_neg c_1_11, if_neg c_1_12, if_pos c_1_13, if_pos c_116], ht⟩) (fun q h => by cases h) d_Arit_result_124
                              · skip
                                refine lv_iconst (v := 1) hx hb d_Arit_result_119 (by decide) ?_
                                refine lv_goto (tgt := 124) hx hb d_Arit_result_120 (by decide) ?_
                                exact W.iret (v := 1) hx hb hr (fun t ht hW => ⟨_, rfl, by rw [cF_Arithmetic_result, if_neg c_1_0, if_neg c_1_1, if_neg c_1_2, if_neg c_1_3, if_neg c_1_4, if_neg c_1_5, if_neg c_1_6, if_neg c_1_7, if_neg c_1_8, if_neg c_1_9, if_neg c_1_10, if_neg c_1_11, if_neg c_1_12, if_pos c_1_13, if_neg c_116], ht⟩) (fun q h => by cases h) d_Arit_result_124
                            · skip
                              by_cases c_1_14 : x0 = 32
                              · skip
                                refine lv_tableIn (tgt := 125) hx hb d_Arit_result_1 (by rw [c_1_14]; decide) (by rw [c_1_14]; decide) (by rw [c_1_14] <;> rfl) (by decide) ?_
                                refine lv_iload_n hx hb d_Arit_result_125 rfl (lv_at hl 1 rfl) ?_
                                refine lv_iload_n hx hb d_Arit_result_126 rfl (lv_at hl 2 rfl) ?_
                                refine lv_ixor hx hb d_Arit_result_127 ?_
                                exact W.iret (v := (x1 ^^^ x2)) hx hb hr (fun t ht hW => ⟨_, rfl, by rw [cF_Arithmetic_result, if_neg c_1_0, if_neg c_1_1, if_neg c_1_2, if_neg c_1_3, if_neg c_1_4, if_neg c_1_5, if_neg c_1_6, if_neg c_1_7, if_neg c_1_8, if_neg c_1_9, if_neg c_1_10, if_neg c_1_11, if_neg c_1_12, if_neg c_1_13, if_pos c_1_14], ht⟩) (fun q h => by cases h) d_Arit_result_128
                              · skip
                                by_cases c_1_15 : x0 = 33
                                · skip
                                  refine lv_tableIn (tgt := 144) hx hb d_Arit_result_1 (by rw [c_1_15]; decide) (by rw [c_1_15]; decide) (by rw [c_1_15] <;> rfl) (by decide) ?_
                                  refine lv_iload_n hx hb d_Arit_result_144 rfl (lv_at hl 1 rfl) ?_
                                  refine lv_iload_n hx hb d_Arit_result_145 rfl (lv_at hl 2 rfl) ?_
                                  refine lv_bipush (v := 31) hx hb d_Arit_result_146 (by decide) ?_
                                  refine lv_iand hx hb d_Arit_result_148 ?_
                                  refine lv_iushr (v := (j_ushr x1 (x2 &&& 31))) hx hb d_Arit_result_149 rfl ?_
                                  exact W.iret (v := (j_ushr x1 (x2 &&& 31))) hx hb hr (fun t ht hW => ⟨_, rfl, by rw [cF_Arithmetic_result, if_neg c_1_0, if_neg c_1_1, if_neg c_1_2, if_neg c_1_3, if_neg c_1_4, if_neg c_1_5, if_neg c_1_6, if_neg c_1_7, if_neg c_1_8, if_neg c_1_9, if_neg c_1_10, if_neg c_1_11, if_neg c_1_12, if_neg c_1_13, if_neg c_1_14, if_pos c_1_15], ht⟩) (fun q h => by cases h) d_Arit_result_150
                                · skip
                                  by_cases c_1_16 : x0 = 34
                                  · skip
                                    refine lv_tableIn (tgt := 151) hx hb d_Arit_result_1 (by rw [c_1_16]; decide) (by rw [c_1_16]; decide) (by rw [c_1_16] <;> rfl) (by decide) ?_
                                    refine lv_iload_n hx hb d_Arit_result_151 rfl (lv_at hl 1 rfl) ?_
                                    refine lv_iload_n hx hb d_Arit_result_152 rfl (lv_at hl 2 rfl) ?_
                                    refine lv_bipush (v := 31) hx hb d_Arit_result_153 (by decide) ?_
                                    refine lv_iand hx hb d_Arit_result_155 ?_
                                    refine lv_ishr hx hb d_Arit_result_156 ?_
                                    exact W.iret (v := (x1 >>> ((x2 &&& 31) &&& 31))) hx hb hr (fun t ht hW => ⟨_, rfl, by rw [cF_Arithmetic_result, if_neg c_1_0, if_neg c_1_1, if_neg c_1_2, if_neg c_1_3, if_neg c_1_4, if_neg c_1_5, if_neg c_1_6, if_neg c_1_7, if_neg c_1_8, if_neg c_1_9, if_neg c_1_10, if_neg c_1_11, if_neg c_1_12, if_neg c_1_13, if_neg c_1_14, if_neg c_1_15, if_pos c_1_16], ht⟩) (fun q h => by cases h) d_Arit_result_157
                                  · skip
                                    by_cases c_1_17 : x0 = 35
                                    · skip
                                      refine lv_tableIn (tgt := 129) hx hb d_Arit_result_1 (by rw [c_1_17]; decide) (by rw [c_1_17]; decide) (by rw [c_1_17] <;> rfl) (by decide) ?_
                                      refine lv_iload_n hx hb d_Arit_result_129 rfl (lv_at hl 1 rfl) ?_
                                      refine lv_iload_n hx hb d_Arit_result_130 rfl (lv_at hl 2 rfl) ?_
                                      refine lv_ior hx hb d_Arit_result_131 ?_
                                      exact W.iret (v := (x1 ||| x2)) hx hb hr (fun t ht hW => ⟨_, rfl, by rw [cF_Arithmetic_result, if_neg c_1_0, if_neg c_1_1, if_neg c_1_2, if_neg c_1_3, if_neg c_1_4, if_neg c_1_5, if_neg c_1_6, if_neg c_1_7, if_neg c_1_8, if_neg c_1_9, if_neg c_1_10, if_neg c_1_11, if_neg c_1_12, if_neg c_1_13, if_neg c_1_14, if_neg c_1_15, if_neg c_1_16, if_pos c_1_17], ht⟩) (fun q h => by cases h) d_Arit_result_132
                                    · skip
                                      by_cases c_1_18 : x0 = 36
                                      · skip
                                        refine lv_tableIn (tgt := 133) hx hb d_Arit_result_1 (by rw [c_1_18]; decide) (by rw [c_1_18]; decide) (by rw [c_1_18] <;> rfl) (by decide) ?_
                                        refine lv_iload_n hx hb d_Arit_result_133 rfl (lv_at hl 1 rfl) ?_
                                        refine lv_iload_n hx hb d_Arit_result_134 rfl (lv_at hl 2 rfl) ?_
                                        refine lv_iand hx hb d_Arit_result_135 ?_
                                        exact W.iret (v := (x1 &&& x2)) hx hb hr (fun t ht hW => ⟨_, rfl, by rw [cF_Arithmetic_result, if_neg c_1_0, if_neg c_1_1, if_neg c_1_2, if_neg c_1_3, if_neg c_1_4, if_neg c_1_5, if_neg c_1_6, if_neg c_1_7, if_neg c_1_8, if_neg c_1_9, if_neg c_1_10, if_neg c_1_11, if_neg c_1_12, if_neg c_1_13, if_neg c_1_14, if_neg c_1_15, if_neg c_1_16, if_neg c_1_17, if_pos c_1_18], ht⟩) (fun q h => by cases h) d_Arit_result_136
                                      · skip
                                        refine lv_tableOut (tgt := 158) hx hb d_Arit_result_1 (by have n_0 := lv_neT (a := 18) c_1_0 (by decide); have n_1 := lv_neT (a := 19) c_1_1 (by decide); have n_2 := lv_neT (a := 20) c_1_2 (by decide); have n_3 := lv_neT (a := 21) c_1_3 (by decide); have n_4 := lv_neT (a := 22) c_1_4 (by decide); have n_5 := lv_neT (a := 23) c_1_5 (by decide); have n_6 := lv_neT (a := 24) c_1_6 (by decide); have n_7 := lv_neT (a := 25) c_1_7 (by decide); have n_8 := lv_neT (a := 26) c_1_8 (by decide); have n_9 := lv_neT (a := 27) c_1_9 (by decide); have n_10 := lv_neT (a := 28) c_1_10 (by decide); have n_11 := lv_neT (a := 29) c_1_11 (by decide); have n_12 := lv_neT (a := 30) c_1_12 (by decide); have n_13 := lv_neT (a := 31) c_1_13 (by decide); have n_14 := lv_neT (a := 32) c_1_14 (by decide); have n_15 := lv_neT (a := 33) c_1_15 (by decide); have n_16 := lv_neT (a := 34) c_1_16 (by decide); have n_17 := lv_neT (a := 35) c_1_17 (by decide); have n_18 := lv_neT (a := 36) c_1_18 (by decide); omega) (by decide) ?_
                                        refine lv_iload_n hx hb d_Arit_result_158 rfl (lv_at hl 0 rfl) ?_
                                        refine lv_iload_n hx hb d_Arit_result_159 rfl (lv_at hl 1 rfl) ?_
                                        refine lv_iload_n hx hb d_Arit_result_160 rfl (lv_at hl 2 rfl) ?_
                                        refine roSi (As := [.int x0, .int x1, .int x2]) (rest := []) ⟨hx, hb, hml, hown, hts⟩ (cc_Arithmetic_product l D tc tb z0 x0 x1 x2) (va_cwS 3 hts (goodS a_540 a_541 a_14 a_542) rfl rfl rfl hs_Arit_product ⟨Nat.le_of_ble_eq_true rfl, Nat.le_of_ble_eq_true rfl⟩) (hP.sub [] rfl) hK hB rfl hl.1 rfl (Nat.le_of_ble_eq_true rfl) d_Arit_result_161 ⟨Nat.zero_le _, Nat.zero_le _⟩ ?_
                                        exact W.iret (v := (cF_Arithmetic_product x0 x1 x2)) hx hb hr (fun t ht hW => ⟨_, rfl, by rw [cF_Arithmetic_result, if_neg c_1_0, if_neg c_1_1, if_neg c_1_2, if_neg c_1_3, if_neg c_1_4, if_neg c_1_5, if_neg c_1_6, if_neg c_1_7, if_neg c_1_8, if_neg c_1_9, if_neg c_1_10, if_neg c_1_11, if_neg c_1_12, if_neg c_1_13, if_neg c_1_14, if_neg c_1_15, if_neg c_1_16, if_neg c_1_17, if_neg c_1_18], ht⟩) (fun q h => by cases h) d_Arit_result_164
