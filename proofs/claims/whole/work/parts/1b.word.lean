def cF_Word_isLong (x0 : Int32) : Int32 := (if (x0 &&& 3) = 3 then 1 else 0)
set_option maxHeartbeats 4000000 in
set_option maxRecDepth 100000 in
theorem cc_Word_isLong (l : Launch) (D : va_G) (tc : Nat → ClassId) (tb : Nat → Nat) (z0 : Nat) (x0 : Int32) : Met l y_Word_isLong (wM y_Word_isLong b_Word_isLong 1 (some .boolean)) ({ frames := 0, cells := 0, slots := 0, locals := 0 }) (va_Pc [.int x0] (Pr D tc tb z0 [])) (vp_Si (fun r => r = (cF_Word_isLong x0))) 0 0 (fun _ => False) := by
  refine Met.ofW (cc := b_Word_isLong) (maxL := 1) (ret := (some .boolean)) (by decide) rfl ?_
  intro p e s m args below meth c s₁ B hml hv
  obtain ⟨rfl, hP, hK, hB⟩ := hv
  have hx := B.exec
  have hb := B.bytes
  have hr := B.returns
  have hts : ∀ w ∈ wALL, w.before _ s = true := fun w h => atoms_spec (ws := (wM y_Word_isLong b_Word_isLong 1 (some .boolean))) B.pre w (List.mem_cons_of_mem _ h)
  have hown : s.vm.findClass "StepMachine$Word" = some m.cls := findClass_of_methodNamed B.named
  have hlocks := B.notSynchronized
  have hl := lv_entry ([.int x0]) (n := 1) (Nat.le_of_ble_eq_true rfl)
  rw [lg_entry_eq]
  generalize (lg_sl ([.int x0]) ++ List.replicate (1 - (lg_sl ([.int x0])).length) Slot.unset).toArray = ls at hl ⊢
  have hl : lv_has ls 1 [(0, .int x0)] := hl
  refine lv_iload_n hx hb d_Word_isLong_0 rfl (lv_at hl 0 rfl) ?_
  refine lv_iconst (v := 3) hx hb d_Word_isLong_1 (by decide) ?_
  refine lv_iand hx hb d_Word_isLong_2 ?_
  refine lv_iconst (v := 3) hx hb d_Word_isLong_3 (by decide) ?_
  refine lv_icmp_ne (tgt := 11) hx hb d_Word_isLong_4 (by decide) (fun c_4 => ?_) (fun c_4 => ?_)
  · skip
    refine lv_iconst (v := 0) hx hb d_Word_isLong_11 (by decide) ?_
    exact W.zret (v := 0) hx hb hr rfl (fun t ht hW => ⟨_, rfl, by rw [cF_Word_isLong, if_neg c_4], ht⟩) (fun q h => by cases h) d_Word_isLong_12
  · skip
    refine lv_iconst (v := 1) hx hb d_Word_isLong_7 (by decide) ?_
    refine lv_goto (tgt := 12) hx hb d_Word_isLong_8 (by decide) ?_
    exact W.zret (v := 1) hx hb hr rfl (fun t ht hW => ⟨_, rfl, by rw [cF_Word_isLong, if_pos c_4], ht⟩) (fun q h => by cases h) d_Word_isLong_12
def cF_Word_part (x0 : Int32) (x1 : Int32) (x2 : Int32) (x3 : Int32) : Int32 := (((j_ushr x0 x1) &&& (((1 : Int32) <<< (x2 &&& 31)) - 1)) <<< (x3 &&& 31))
set_option maxHeartbeats 4000000 in
set_option maxRecDepth 100000 in
theorem cc_Word_part (l : Launch) (D : va_G) (tc : Nat → ClassId) (tb : Nat → Nat) (z0 : Nat) (x0 : Int32) (x1 : Int32) (x2 : Int32) (x3 : Int32) : Met l y_Word_part (wM y_Word_part b_Word_part 4 (some .int)) ({ frames := 0, cells := 0, slots := 0, locals := 0 }) (va_Pc [.int x0, .int x1, .int x2, .int x3] (Pr D tc tb z0 [])) (vp_Si (fun r => r = (cF_Word_part x0 x1 x2 x3))) 0 0 (fun _ => False) := by
  refine Met.ofW (cc := b_Word_part) (maxL := 4) (ret := (some .int)) (by decide) rfl ?_
  intro p e s m args below meth c s₁ B hml hv
  obtain ⟨rfl, hP, hK, hB⟩ := hv
  have hx := B.exec
  have hb := B.bytes
  have hr := B.returns
  have hts : ∀ w ∈ wALL, w.before _ s = true := fun w h => atoms_spec (ws := (wM y_Word_part b_Word_part 4 (some .int))) B.pre w (List.mem_cons_of_mem _ h)
  have hown : s.vm.findClass "StepMachine$Word" = some m.cls := findClass_of_methodNamed B.named
  have hlocks := B.notSynchronized
  have hl := lv_entry ([.int x0, .int x1, .int x2, .int x3]) (n := 4) (Nat.le_of_ble_eq_true rfl)
  rw [lg_entry_eq]
  generalize (lg_sl ([.int x0, .int x1, .int x2, .int x3]) ++ List.replicate (4 - (lg_sl ([.int x0, .int x1, .int x2, .int x3])).length) Slot.unset).toArray = ls at hl ⊢
  have hl : lv_has ls 4 [(0, .int x0), (1, .int x1), (2, .int x2), (3, .int x3)] := hl
  refine lv_iload_n hx hb d_Word_part_0 rfl (lv_at hl 0 rfl) ?_
  refine lv_iload_n hx hb d_Word_part_1 rfl (lv_at hl 1 rfl) ?_
  refine lv_iushr (v := (j_ushr x0 x1)) hx hb d_Word_part_2 rfl ?_
  refine lv_iconst (v := 1) hx hb d_Word_part_3 (by decide) ?_
  refine lv_iload_n hx hb d_Word_part_4 rfl (lv_at hl 2 rfl) ?_
  refine lv_ishl hx hb d_Word_part_5 ?_
  refine lv_iconst (v := 1) hx hb d_Word_part_6 (by decide) ?_
  refine lv_isub hx hb d_Word_part_7 ?_
  refine lv_iand hx hb d_Word_part_8 ?_
  refine lv_iload_n hx hb d_Word_part_9 rfl (lv_at hl 3 rfl) ?_
  refine lv_ishl hx hb d_Word_part_10 ?_
  exact W.iret (v := (((j_ushr x0 x1) &&& (((1 : Int32) <<< (x2 &&& 31)) - 1)) <<< (x3 &&& 31))) hx hb hr (fun t ht hW => ⟨_, rfl, by rw [cF_Word_part], ht⟩) (fun q h => by cases h) d_Word_part_11
def cF_Word_signed (x0 : Int32) (x1 : Int32) : Int32 := ((x0 <<< ((32 - x1) &&& 31)) >>> ((32 - x1) &&& 31))
set_option maxHeartbeats 4000000 in
set_option maxRecDepth 100000 in
theorem cc_Word_signed (l : Launch) (D : va_G) (tc : Nat → ClassId) (tb : Nat → Nat) (z0 : Nat) (x0 : Int32) (x1 : Int32) : Met l y_Word_signed (wM y_Word_signed b_Word_signed 2 (some .int)) ({ frames := 0, cells := 0, slots := 0, locals := 0 }) (va_Pc [.int x0, .int x1] (Pr D tc tb z0 [])) (vp_Si (fun r => r = (cF_Word_signed x0 x1))) 0 0 (fun _ => False) := by
  refine Met.ofW (cc := b_Word_signed) (maxL := 2) (ret := (some .int)) (by decide) rfl ?_
  intro p e s m args below meth c s₁ B hml hv
  obtain ⟨rfl, hP, hK, hB⟩ := hv
  have hx := B.exec
  have hb := B.bytes
  have hr := B.returns
  have hts : ∀ w ∈ wALL, w.before _ s = true := fun w h => atoms_spec (ws := (wM y_Word_signed b_Word_signed 2 (some .int))) B.pre w (List.mem_cons_of_mem _ h)
  have hown : s.vm.findClass "StepMachine$Word" = some m.cls := findClass_of_methodNamed B.named
  have hlocks := B.notSynchronized
  have hl := lv_entry ([.int x0, .int x1]) (n := 2) (Nat.le_of_ble_eq_true rfl)
  rw [lg_entry_eq]
  generalize (lg_sl ([.int x0, .int x1]) ++ List.replicate (2 - (lg_sl ([.int x0, .int x1])).length) Slot.unset).toArray = ls at hl ⊢
  have hl : lv_has ls 2 [(0, .int x0), (1, .int x1)] := hl
  refine lv_iload_n hx hb d_Word_signed_0 rfl (lv_at hl 0 rfl) ?_
  refine lv_bipush (v := 32) hx hb d_Word_signed_1 (by decide) ?_
  refine lv_iload_n hx hb d_Word_signed_3 rfl (lv_at hl 1 rfl) ?_
  refine lv_isub hx hb d_Word_signed_4 ?_
  refine lv_ishl hx hb d_Word_signed_5 ?_
  refine lv_bipush (v := 32) hx hb d_Word_signed_6 (by decide) ?_
  refine lv_iload_n hx hb d_Word_signed_8 rfl (lv_at hl 1 rfl) ?_
  refine lv_isub hx hb d_Word_signed_9 ?_
  refine lv_ishr hx hb d_Word_signed_10 ?_
  exact W.iret (v := ((x0 <<< ((32 - x1) &&& 31)) >>> ((32 - x1) &&& 31))) hx hb hr (fun t ht hW => ⟨_, rfl, by rw [cF_Word_signed], ht⟩) (fun q h => by cases h) d_Word_signed_11
def cF_Word_isStore (w_k : Int32) : Int32 := (if w_k < 15 then 0 else (if 17 < w_k then 0 else 1))
set_option maxHeartbeats 4000000 in
set_option maxRecDepth 100000 in
theorem cc_Word_isStore (l : Launch) (D : va_G) (tc : Nat → ClassId) (tb : Nat → Nat) (z0 : Nat) (a_w : Nat) (w_n : Int32) (w_k : Int32) (w_d : Int32) (w_a : Int32) (w_b : Int32) (w_i : Int32) : Met l y_Word_isStore (wM y_Word_isStore b_Word_isStore 1 (some .boolean)) ({ frames := 0, cells := 0, slots := 0, locals := 0 }) (va_Pc [.ref a_w] (Pr D tc tb z0 [(a_w, .inr (4, [.int w_n, .int w_k, .int w_d, .int w_a, .int w_b, .int w_i]))])) (vp_Si (fun r => r = (cF_Word_isStore w_k))) 0 0 (fun _ => False) := by
  refine Met.ofW (cc := b_Word_isStore) (maxL := 1) (ret := (some .boolean)) (by decide) rfl ?_
  intro p e s m args below meth c s₁ B hml hv
  obtain ⟨rfl, hP, hK, hB⟩ := hv
  have hx := B.exec
  have hb := B.bytes
  have hr := B.returns
  have hts : ∀ w ∈ wALL, w.before _ s = true := fun w h => atoms_spec (ws := (wM y_Word_isStore b_Word_isStore 1 (some .boolean))) B.pre w (List.mem_cons_of_mem _ h)
  have hown : s.vm.findClass "StepMachine$Word" = some m.cls := findClass_of_methodNamed B.named
  have hlocks := B.notSynchronized
  have hl := lv_entry ([.ref a_w]) (n := 1) (Nat.le_of_ble_eq_true rfl)
  rw [lg_entry_eq]
  generalize (lg_sl ([.ref a_w]) ++ List.replicate (1 - (lg_sl ([.ref a_w])).length) Slot.unset).toArray = ls at hl ⊢
  have hl : lv_has ls 1 [(0, .ref a_w)] := hl
  refine lv_aload_n hx hb d_Word_isStore_0 rfl (lv_at hl 0 rfl) ?_
  refine va_get (D := D) (ci := 4) (v := .int w_k) (C := "StepMachine$Word") (T := TX4) (N := 6) hx hb hts inU_4 hown hK hP 0 rfl rfl 1 (by decide) (hts _ a_134) (fun _ h9 => h9) rfl d_Word_isStore_1 ?_
  refine lv_bipush (v := 15) hx hb d_Word_isStore_4 (by decide) ?_
  refine lv_icmp_lt (tgt := 22) hx hb d_Word_isStore_6 (by decide) (fun c_6 => ?_) (fun c_6 => ?_)
  · skip
    refine lv_iconst (v := 0) hx hb d_Word_isStore_22 (by decide) ?_
    exact W.zret (v := 0) hx hb hr rfl (fun t ht hW => ⟨_, rfl, by rw [cF_Word_isStore, if_pos c_6], ht⟩) (fun q h => by cases h) d_Word_isStore_23
  · skip
    refine lv_aload_n hx hb d_Word_isStore_9 rfl (lv_at hl 0 rfl) ?_
    refine va_get (D := D) (ci := 4) (v := .int w_k) (C := "StepMachine$Word") (T := TX4) (N := 6) hx hb hts inU_4 hown hK hP 0 rfl rfl 1 (by decide) (hts _ a_134) (fun _ h9 => h9) rfl d_Word_isStore_10 ?_
    refine lv_bipush (v := 17) hx hb d_Word_isStore_13 (by decide) ?_
    refine lv_icmp_gt (tgt := 22) hx hb d_Word_isStore_15 (by decide) (fun c_15 => ?_) (fun c_15 => ?_)
    · skip
      refine lv_iconst (v := 0) hx hb d_Word_isStore_22 (by decide) ?_
      exact W.zret (v := 0) hx hb hr rfl (fun t ht hW => ⟨_, rfl, by rw [cF_Word_isStore, if_neg c_6, if_pos c_15], ht⟩) (fun q h => by cases h) d_Word_isStore_23
    · skip
      refine lv_iconst (v := 1) hx hb d_Word_isStore_18 (by decide) ?_
      refine lv_goto (tgt := 23) hx hb d_Word_isStore_19 (by decide) ?_
      exact W.zret (v := 1) hx hb hr rfl (fun t ht hW => ⟨_, rfl, by rw [cF_Word_isStore, if_neg c_6, if_neg c_15], ht⟩) (fun q h => by cases h) d_Word_isStore_23
def cF_Word_accessBytes (w_k : Int32) : Int32 := (if w_k = 10 then 1 else (if w_k = 11 then 2 else (if w_k = 12 then 4 else (if w_k = 13 then 1 else (if w_k = 14 then 2 else (if w_k = 15 then 1 else (if w_k = 16 then 2 else (if w_k = 17 then 4 else 0))))))))
set_option maxHeartbeats 4000000 in
set_option maxRecDepth 100000 in
theorem cc_Word_accessBytes (l : Launch) (D : va_G) (tc : Nat → ClassId) (tb : Nat → Nat) (z0 : Nat) (a_w : Nat) (w_n : Int32) (w_k : Int32) (w_d : Int32) (w_a : Int32) (w_b : Int32) (w_i : Int32) : Met l y_Word_accessBytes (wM y_Word_accessBytes b_Word_accessBytes 1 (some .int)) ({ frames := 0, cells := 0, slots := 0, locals := 0 }) (va_Pc [.ref a_w] (Pr D tc tb z0 [(a_w, .inr (4, [.int w_n, .int w_k, .int w_d, .int w_a, .int w_b, .int w_i]))])) (vp_Si (fun r => r = (cF_Word_accessBytes w_k))) 0 0 (fun _ => False) := by
  refine Met.ofW (cc := b_Word_accessBytes) (maxL := 1) (ret := (some .int)) (by decide) rfl ?_
  intro p e s m args below meth c s₁ B hml hv
  obtain ⟨rfl, hP, hK, hB⟩ := hv
  have hx := B.exec
  have hb := B.bytes
  have hr := B.returns
  have hts : ∀ w ∈ wALL, w.before _ s = true := fun w h => atoms_spec (ws := (wM y_Word_accessBytes b_Word_accessBytes 1 (some .int))) B.pre w (List.mem_cons_of_mem _ h)
  have hown : s.vm.findClass "StepMachine$Word" = some m.cls := findClass_of_methodNamed B.named
  have hlocks := B.notSynchronized
  have hl := lv_entry ([.ref a_w]) (n := 1) (Nat.le_of_ble_eq_true rfl)
  rw [lg_entry_eq]
  generalize (lg_sl ([.ref a_w]) ++ List.replicate (1 - (lg_sl ([.ref a_w])).length) Slot.unset).toArray = ls at hl ⊢
  have hl : lv_has ls 1 [(0, .ref a_w)] := hl
  refine lv_aload_n hx hb d_Word_accessBytes_0 rfl (lv_at hl 0 rfl) ?_
  refine va_get (D := D) (ci := 4) (v := .int w_k) (C := "StepMachine$Word") (T := TX4) (N := 6) hx hb hts inU_4 hown hK hP 0 rfl rfl 1 (by decide) (hts _ a_134) (fun _ h9 => h9) rfl d_Word_accessBytes_1 ?_
  by_cases c_4_0 : w_k = 10
  · skip
    refine lv_tableIn (tgt := 52) hx hb d_Word_accessBytes_4 (by rw [c_4_0]; decide) (by rw [c_4_0]; decide) (by rw [c_4_0] <;> rfl) (by decide) ?_
    refine lv_iconst (v := 1) hx hb d_Word_accessBytes_52 (by decide) ?_
    exact W.iret (v := 1) hx hb hr (fun t ht hW => ⟨_, rfl, by rw [cF_Word_accessBytes, if_pos c_4_0], ht⟩) (fun q h => by cases h) d_Word_accessBytes_53
  · skip
    by_cases c_4_1 : w_k = 11
    · skip
      refine lv_tableIn (tgt := 54) hx hb d_Word_accessBytes_4 (by rw [c_4_1]; decide) (by rw [c_4_1]; decide) (by rw [c_4_1] <;> rfl) (by decide) ?_
      refine lv_iconst (v := 2) hx hb d_Word_accessBytes_54 (by decide) ?_
      exact W.iret (v := 2) hx hb hr (fun t ht hW => ⟨_, rfl, by rw [cF_Word_accessBytes, if_neg c_4_0, if_pos c_4_1], ht⟩) (fun q h => by cases h) d_Word_accessBytes_55
    · skip
      by_cases c_4_2 : w_k = 12
      · skip
        refine lv_tableIn (tgt := 56) hx hb d_Word_accessBytes_4 (by rw [c_4_2]; decide) (by rw [c_4_2]; decide) (by rw [c_4_2] <;> rfl) (by decide) ?_
        refine lv_iconst (v := 4) hx hb d_Word_accessBytes_56 (by decide) ?_
        exact W.iret (v := 4) hx hb hr (fun t ht hW => ⟨_, rfl, by rw [cF_Word_accessBytes, if_neg c_4_0, if_neg c_4_1, if_pos c_4_2], ht⟩) (fun q h => by cases h) d_Word_accessBytes_57
      · skip
        by_cases c_4_3 : w_k = 13
        · skip
          refine lv_tableIn (tgt := 52) hx hb d_Word_accessBytes_4 (by rw [c_4_3]; decide) (by rw [c_4_3]; decide) (by rw [c_4_3] <;> rfl) (by decide) ?_
          refine lv_iconst (v := 1) hx hb d_Word_accessBytes_52 (by decide) ?_
          exact W.iret (v := 1) hx hb hr (fun t ht hW => ⟨_, rfl, by rw [cF_Word_accessBytes, if_neg c_4_0, if_neg c_4_1, if_neg c_4_2, if_pos c_4_3], ht⟩) (fun q h => by cases h) d_Word_accessBytes_53
        · skip
          by_cases c_4_4 : w_k = 14
          · skip
            refine lv_tableIn (tgt := 54) hx hb d_Word_accessBytes_4 (by rw [c_4_4]; decide) (by rw [c_4_4]; decide) (by rw [c_4_4] <;> rfl) (by decide) ?_
            refine lv_iconst (v := 2) hx hb d_Word_accessBytes_54 (by decide) ?_
            exact W.iret (v := 2) hx hb hr (fun t ht hW => ⟨_, rfl, by rw [cF_Word_accessBytes, if_neg c_4_0, if_neg c_4_1, if_neg c_4_2, if_neg c_4_3, if_pos c_4_4], ht⟩) (fun q h => by cases h) d_Word_accessBytes_55
          · skip
            by_cases c_4_5 : w_k = 15
            · skip
              refine lv_tableIn (tgt := 52) hx hb d_Word_accessBytes_4 (by rw [c_4_5]; decide) (by rw [c_4_5]; decide) (by rw [c_4_5] <;> rfl) (by decide) ?_
              refine lv_iconst (v := 1) hx hb d_Word_accessBytes_52 (by decide) ?_
              exact W.iret (v := 1) hx hb hr (fun t ht hW => ⟨_, rfl, by rw [cF_Word_accessBytes, if_neg c_4_0, if_neg c_4_1, if_neg c_4_2, if_neg c_4_3, if_neg c_4_4, if_pos c_4_5], ht⟩) (fun q h => by cases h) d_Word_accessBytes_53
            · skip
              by_cases c_4_6 : w_k = 16
              · skip
                refine lv_tableIn (tgt := 54) hx hb d_Word_accessBytes_4 (by rw [c_4_6]; decide) (by rw [c_4_6]; decide) (by rw [c_4_6] <;> rfl) (by decide) ?_
                refine lv_iconst (v := 2) hx hb d_Word_accessBytes_54 (by decide) ?_
                exact W.iret (v := 2) hx hb hr (fun t ht hW => ⟨_, rfl, by rw [cF_Word_accessBytes, if_neg c_4_0, if_neg c_4_1, if_neg c_4_2, if_neg c_4_3, if_neg c_4_4, if_neg c_4_5, if_pos c_4_6], ht⟩) (fun q h => by cases h) d_Word_accessBytes_55
              · skip
                by_cases c_4_7 : w_k = 17
                · skip
                  refine lv_tableIn (tgt := 56) hx hb d_Word_accessBytes_4 (by rw [c_4_7]; decide) (by rw [c_4_7]; decide) (by rw [c_4_7] <;> rfl) (by decide) ?_
                  refine lv_iconst (v := 4) hx hb d_Word_accessBytes_56 (by decide) ?_
                  exact W.iret (v := 4) hx hb hr (fun t ht hW => ⟨_, rfl, by rw [cF_Word_accessBytes, if_neg c_4_0, if_neg c_4_1, if_neg c_4_2, if_neg c_4_3, if_neg c_4_4, if_neg c_4_5, if_neg c_4_6, if_pos c_4_7], ht⟩) (fun q h => by cases h) d_Word_accessBytes_57
                · skip
                  refine lv_tableOut (tgt := 58) hx hb d_Word_accessBytes_4 (by have n_0 := lv_neT (a := 10) c_4_0 (by decide); have n_1 := lv_neT (a := 11) c_4_1 (by decide); have n_2 := lv_neT (a := 12) c_4_2 (by decide); have n_3 := lv_neT (a := 13) c_4_3 (by decide); have n_4 := lv_neT (a := 14) c_4_4 (by decide); have n_5 := lv_neT (a := 15) c_4_5 (by decide); have n_6 := lv_neT (a := 16) c_4_6 (by decide); have n_7 := lv_neT (a := 17) c_4_7 (by decide); omega) (by decide) ?_
                  refine lv_iconst (v := 0) hx hb d_Word_accessBytes_58 (by decide) ?_
                  exact W.iret (v := 0) hx hb hr (fun t ht hW => ⟨_, rfl, by rw [cF_Word_accessBytes, if_neg c_4_0, if_neg c_4_1, if_neg c_4_2, if_neg c_4_3, if_neg c_4_4, if_neg c_4_5, if_neg c_4_6, if_neg c_4_7], ht⟩) (fun q h => by cases h) d_Word_accessBytes_59
def cF_Word_is (x0 : Int32) (x1 : Int32) (x2 : Int32) (x3 : Int32) (x4 : Int32) : Int32 × Int32 × Int32 × Int32 × Int32 := (x0, x1, x2, x3, x4)
set_option maxHeartbeats 4000000 in
set_option maxRecDepth 100000 in
theorem cc_Word_is (l : Launch) (D : va_G) (tc : Nat → ClassId) (tb : Nat → Nat) (z0 : Nat) (sz : Nat) (a_w : Nat) (w_n : Int32) (w_k : Int32) (w_d : Int32) (w_a : Int32) (w_b : Int32) (w_i : Int32) (x0 : Int32) (x1 : Int32) (x2 : Int32) (x3 : Int32) (x4 : Int32) : Met l y_Word_is (wM y_Word_is b_Word_is 6 none) ({ frames := 0, cells := 0, slots := 0, locals := 0 }) (va_Pc [.ref a_w, .int x0, .int x1, .int x2, .int x3, .int x4] (Pw D tc tb z0 [(a_w, .inr (4, [.int w_n, .int w_k, .int w_d, .int w_a, .int w_b, .int w_i]))] sz)) (va_Qv (fun u : Int32 × Int32 × Int32 × Int32 × Int32 => u = (cF_Word_is x0 x1 x2 x3 x4)) (Bw D tc (va_A [(a_w, .inr (4, [.int w_n, .int w_k, .int w_d, .int w_a, .int w_b, .int w_i]))] sz) (fun u => [(a_w, .inr (4, [.int w_n, .int u.1, .int u.2.1, .int u.2.2.1, .int u.2.2.2.1, .int u.2.2.2.2]))])) (va_A [(a_w, .inr (4, [.int w_n, .int w_k, .int w_d, .int w_a, .int w_b, .int w_i]))] sz)) 0 0 (va_A [(a_w, .inr (4, [.int w_n, .int w_k, .int w_d, .int w_a, .int w_b, .int w_i]))] sz) := by
  refine Met.ofW (cc := b_Word_is) (maxL := 6) (ret := none) (by decide) rfl ?_
  intro p e s m args below meth c s₁ B hml hv
  obtain ⟨rfl, hsz, hP, hK, hB, hD0, hZ0⟩ := hv
  have hx := B.exec
  have hb := B.bytes
  have hr := B.returns
  have hts : ∀ w ∈ wALL, w.before _ s = true := fun w h => atoms_spec (ws := (wM y_Word_is b_Word_is 6 none)) B.pre w (List.mem_cons_of_mem _ h)
  have hown : s.vm.findClass "StepMachine$Word" = some m.cls := findClass_of_methodNamed B.named
  have hlocks := B.notSynchronized
  subst hsz
  have hD := hD0.self (sz := s.heap.size)
  generalize hAe : va_A [(a_w, .inr (4, [.int w_n, .int w_k, .int w_d, .int w_a, .int w_b, .int w_i]))] s.heap.size = A at hD ⊢
  have hZ : ∀ q : Nat, A q → z0 ≤ q := by rw [← hAe]; exact hZ0
  have hA : ∀ q : Nat, s.heap.size ≤ q → A q := fun q h => by rw [← hAe]; exact Or.inr h
  have hS : va_S A s.heap s.heap [] := va_S.rf
  have hl := lv_entry ([.ref a_w, .int x0, .int x1, .int x2, .int x3, .int x4]) (n := 6) (Nat.le_of_ble_eq_true rfl)
  rw [lg_entry_eq]
  generalize (lg_sl ([.ref a_w, .int x0, .int x1, .int x2, .int x3, .int x4]) ++ List.replicate (6 - (lg_sl ([.ref a_w, .int x0, .int x1, .int x2, .int x3, .int x4])).length) Slot.unset).toArray = ls at hl ⊢
  have hl : lv_has ls 6 [(0, .ref a_w), (1, .int x0), (2, .int x1), (3, .int x2), (4, .int x3), (5, .int x4)] := hl
  refine lv_aload_n hx hb d_Word_is_0 rfl (lv_at hl 0 rfl) ?_
  refine lv_iload_n hx hb d_Word_is_1 rfl (lv_at hl 1 rfl) ?_
  refine va_put (D := D) (ci := 4) (v := .int x0) (ty := .int) (C := "StepMachine$Word") (T := TX4) (N := 6) hx hb hts inU_4 tyX4 tyX4_ok nmX4 hown hK hP hD hS 0 rfl rfl 1 (by decide) (hts _ a_134) (fun _ h9 => h9) rfl (by decide +kernel) rfl rfl (Nat.le_of_ble_eq_true rfl) d_Word_is_2 (fun H locs hP hD hS => ?_)
  have hP : va_P D vwCl [(a_w, .inr (4, [.int w_n, .int x0, .int w_d, .int w_a, .int w_b, .int w_i]))] H := hP
  have hD : va_D A [(a_w, .inr (4, [.int w_n, .int x0, .int w_d, .int w_a, .int w_b, .int w_i]))] := hD
  refine lv_aload_n hx hb d_Word_is_5 rfl (lv_at hl 0 rfl) ?_
  refine lv_iload_n hx hb d_Word_is_6 rfl (lv_at hl 2 rfl) ?_
  refine va_put (D := D) (ci := 4) (v := .int x1) (ty := .int) (C := "StepMachine$Word") (T := TX4) (N := 6) hx hb hts inU_4 tyX4 tyX4_ok nmX4 hown hK hP hD hS 0 rfl rfl 2 (by decide) (hts _ a_136) (fun _ h9 => h9) rfl (by decide +kernel) rfl rfl (Nat.le_of_ble_eq_true rfl) d_Word_is_7 (fun H locs hP hD hS => ?_)
  have hP : va_P D vwCl [(a_w, .inr (4, [.int w_n, .int x0, .int x1, .int w_a, .int w_b, .int w_i]))] H := hP
  have hD : va_D A [(a_w, .inr (4, [.int w_n, .int x0, .int x1, .int w_a, .int w_b, .int w_i]))] := hD
  refine lv_aload_n hx hb d_Word_is_10 rfl (lv_at hl 0 rfl) ?_
  refine lv_iload_n hx hb d_Word_is_11 rfl (lv_at hl 3 rfl) ?_
  refine va_put (D := D) (ci := 4) (v := .int x2) (ty := .int) (C := "StepMachine$Word") (T := TX4) (N := 6) hx hb hts inU_4 tyX4 tyX4_ok nmX4 hown hK hP hD hS 0 rfl rfl 3 (by decide) (hts _ a_138) (fun _ h9 => h9) rfl (by decide +kernel) rfl rfl (Nat.le_of_ble_eq_true rfl) d_Word_is_12 (fun H locs hP hD hS => ?_)
  have hP : va_P D vwCl [(a_w, .inr (4, [.int w_n, .int x0, .int x1, .int x2, .int w_b, .int w_i]))] H := hP
  have hD : va_D A [(a_w, .inr (4, [.int w_n, .int x0, .int x1, .int x2, .int w_b, .int w_i]))] := hD
  refine lv_aload_n hx hb d_Word_is_15 rfl (lv_at hl 0 rfl) ?_
  refine lv_iload hx hb d_Word_is_16 (lv_at hl 4 rfl) ?_
  refine va_put (D := D) (ci := 4) (v := .int x3) (ty := .int) (C := "StepMachine$Word") (T := TX4) (N := 6) hx hb hts inU_4 tyX4 tyX4_ok nmX4 hown hK hP hD hS 0 rfl rfl 4 (by decide) (hts _ a_140) (fun _ h9 => h9) rfl (by decide +kernel) rfl rfl (Nat.le_of_ble_eq_true rfl) d_Word_is_18 (fun H locs hP hD hS => ?_)
  have hP : va_P D vwCl [(a_w, .inr (4, [.int w_n, .int x0, .int x1, .int x2, .int x3, .int w_i]))] H := hP
  have hD : va_D A [(a_w, .inr (4, [.int w_n, .int x0, .int x1, .int x2, .int x3, .int w_i]))] := hD
  refine lv_aload_n hx hb d_Word_is_21 rfl (lv_at hl 0 rfl) ?_
  refine lv_iload hx hb d_Word_is_22 (lv_at hl 5 rfl) ?_
  refine va_put (D := D) (ci := 4) (v := .int x4) (ty := .int) (C := "StepMachine$Word") (T := TX4) (N := 6) hx hb hts inU_4 tyX4 tyX4_ok nmX4 hown hK hP hD hS 0 rfl rfl 5 (by decide) (hts _ a_142) (fun _ h9 => h9) rfl (by decide +kernel) rfl rfl (Nat.le_of_ble_eq_true rfl) d_Word_is_24 (fun H locs hP hD hS => ?_)
  have hP : va_P D vwCl [(a_w, .inr (4, [.int w_n, .int x0, .int x1, .int x2, .int x3, .int x4]))] H := hP
  have hD : va_D A [(a_w, .inr (4, [.int w_n, .int x0, .int x1, .int x2, .int x3, .int x4]))] := hD
  exact W.vret hx hb hr (fun t ht hW => ⟨⟨(x0, x1, x2, x3, x4), rfl, by rw [cF_Word_is], by rw [ht]; exact hP, va_K.moved hW.alike hK, hD⟩, hS.F ht⟩) hS.2.2 d_Word_is_27
def cF_Word_clear_1 (x0 : Int32) (q_11 : Int32 × Int32 × Int32 × Int32 × Int32) : Int32 × Int32 × Int32 × Int32 × Int32 × Int32 := (x0, q_11.1, q_11.2.1, q_11.2.2.1, q_11.2.2.2.1, q_11.2.2.2.2)
def cF_Word_clear (x0 : Int32) : Int32 × Int32 × Int32 × Int32 × Int32 × Int32 := (cF_Word_clear_1 x0 (cF_Word_is (-1) 0 0 0 0))
set_option maxHeartbeats 4000000 in
set_option maxRecDepth 100000 in
theorem cc_Word_clear (l : Launch) (D : va_G) (tc : Nat → ClassId) (tb : Nat → Nat) (z0 : Nat) (sz : Nat) (a_w : Nat) (w_n : Int32) (w_k : Int32) (w_d : Int32) (w_a : Int32) (w_b : Int32) (w_i : Int32) (x0 : Int32) : Met l y_Word_clear (wM y_Word_clear b_Word_clear 2 none) ({ frames := 1, cells := 0, slots := 0, locals := 25 }) (va_Pc [.ref a_w, .int x0] (Pw D tc tb z0 [(a_w, .inr (4, [.int w_n, .int w_k, .int w_d, .int w_a, .int w_b, .int w_i]))] sz)) (va_Qv (fun u : Int32 × Int32 × Int32 × Int32 × Int32 × Int32 => u = (cF_Word_clear x0)) (Bw D tc (va_A [(a_w, .inr (4, [.int w_n, .int w_k, .int w_d, .int w_a, .int w_b, .int w_i]))] sz) (fun u => [(a_w, .inr (4, [.int u.1, .int u.2.1, .int u.2.2.1, .int u.2.2.2.1, .int u.2.2.2.2.1, .int u.2.2.2.2.2]))])) (va_A [(a_w, .inr (4, [.int w_n, .int w_k, .int w_d, .int w_a, .int w_b, .int w_i]))] sz)) 0 0 (va_A [(a_w, .inr (4, [.int w_n, .int w_k, .int w_d, .int w_a, .int w_b, .int w_i]))] sz) := by
  refine Met.ofW (cc := b_Word_clear) (maxL := 2) (ret := none) (by decide) rfl ?_
  intro p e s m args below meth c s₁ B hml hv
  obtain ⟨rfl, hsz, hP, hK, hB, hD0, hZ0⟩ := hv
  have hx := B.exec
  have hb := B.bytes
  have hr := B.returns
  have hts : ∀ w ∈ wALL, w.before _ s = true := fun w h => atoms_spec (ws := (wM y_Word_clear b_Word_clear 2 none)) B.pre w (List.mem_cons_of_mem _ h)
  have hown : s.vm.findClass "StepMachine$Word" = some m.cls := findClass_of_methodNamed B.named
  have hlocks := B.notSynchronized
  subst hsz
  have hD := hD0.self (sz := s.heap.size)
  generalize hAe : va_A [(a_w, .inr (4, [.int w_n, .int w_k, .int w_d, .int w_a, .int w_b, .int w_i]))] s.heap.size = A at hD ⊢
  have hZ : ∀ q : Nat, A q → z0 ≤ q := by rw [← hAe]; exact hZ0
  have hA : ∀ q : Nat, s.heap.size ≤ q → A q := fun q h => by rw [← hAe]; exact Or.inr h
  have hS : va_S A s.heap s.heap [] := va_S.rf
  have hl := lv_entry ([.ref a_w, .int x0]) (n := 2) (Nat.le_of_ble_eq_true rfl)
  rw [lg_entry_eq]
  generalize (lg_sl ([.ref a_w, .int x0]) ++ List.replicate (2 - (lg_sl ([.ref a_w, .int x0])).length) Slot.unset).toArray = ls at hl ⊢
  have hl : lv_has ls 2 [(0, .ref a_w), (1, .int x0)] := hl
  refine lv_aload_n hx hb d_Word_clear_0 rfl (lv_at hl 0 rfl) ?_
  refine lv_iload_n hx hb d_Word_clear_1 rfl (lv_at hl 1 rfl) ?_
  refine va_put (D := D) (ci := 4) (v := .int x0) (ty := .int) (C := "StepMachine$Word") (T := TX4) (N := 6) hx hb hts inU_4 tyX4 tyX4_ok nmX4 hown hK hP hD hS 0 rfl rfl 0 (by decide) (hts _ a_132) (fun _ h9 => h9) rfl (by decide +kernel) rfl rfl (Nat.le_of_ble_eq_true rfl) d_Word_clear_2 (fun H locs hP hD hS => ?_)
  have hP : va_P D vwCl [(a_w, .inr (4, [.int x0, .int w_k, .int w_d, .int w_a, .int w_b, .int w_i]))] H := hP
  have hD : va_D A [(a_w, .inr (4, [.int x0, .int w_k, .int w_d, .int w_a, .int w_b, .int w_i]))] := hD
  refine lv_aload_n hx hb d_Word_clear_5 rfl (lv_at hl 0 rfl) ?_
  refine lv_iconst (v := (-1)) hx hb d_Word_clear_6 (by decide) ?_
  refine lv_iconst (v := 0) hx hb d_Word_clear_7 (by decide) ?_
  refine lv_iconst (v := 0) hx hb d_Word_clear_8 (by decide) ?_
  refine lv_iconst (v := 0) hx hb d_Word_clear_9 (by decide) ?_
  refine lv_iconst (v := 0) hx hb d_Word_clear_10 (by decide) ?_
  obtain ⟨q_11, e_11⟩ : ∃ z, z = (cF_Word_is (-1) 0 0 0 0) := ⟨_, rfl⟩
  refine wVv (As := [.int (-1), .int 0, .int 0, .int 0, .int 0]) (rest := []) e_11 ⟨hx, hb, hml, hown, hts⟩ (cc_Word_is l D tc tb z0 _ a_w x0 w_k w_d w_a w_b w_i (-1) 0 0 0 0) (cwV 5 hts (goodV a_356 a_357 a_358 a_9 a_359) rfl rfl rfl hv_Word_is ⟨Nat.le_of_ble_eq_true rfl, Nat.le_of_ble_eq_true rfl⟩) hP hD hS hA hZ hK hB [0] rfl (by decide) (fun _ => rfl) rfl rfl rfl hl.1 rfl (Nat.le_of_ble_eq_true rfl) d_Word_clear_11 ⟨Nat.zero_le _, Nat.zero_le _⟩ (fun H locs hP hD hS => ?_)
  have hP : va_P D vwCl [(a_w, .inr (4, [.int x0, .int q_11.1, .int q_11.2.1, .int q_11.2.2.1, .int q_11.2.2.2.1, .int q_11.2.2.2.2]))] H := hP
  have hD : va_D A [(a_w, .inr (4, [.int x0, .int q_11.1, .int q_11.2.1, .int q_11.2.2.1, .int q_11.2.2.2.1, .int q_11.2.2.2.2]))] := hD
  exact W.vret hx hb hr (fun t ht hW => ⟨⟨(x0, q_11.1, q_11.2.1, q_11.2.2.1, q_11.2.2.2.1, q_11.2.2.2.2), rfl, by rw [cF_Word_clear, ← e_11, cF_Word_clear_1], by rw [ht]; exact hP, va_K.moved hW.alike hK, hD⟩, hS.F ht⟩) hS.2.2 d_Word_clear_14
