theorem in_inp {x0 g k : Int32} (h1 : ¬ x0 < 1) (h2 : ¬ 8 < x0) (h0 : 0 ≤ g.toInt ∧ g.toInt + (x0.toInt - k.toInt) ≤ 1000) (hq : 0 ≤ k.toInt) (c : ¬ x0 ≤ k) : vp_in g 1000 := by
  have a := ob_nle c
  exact ti_in h0.1 (by omega)
theorem inp_step {x0 g k : Int32} (h1 : ¬ x0 < 1) (h2 : ¬ 8 < x0) (h0 : 0 ≤ g.toInt ∧ g.toInt + (x0.toInt - k.toInt) ≤ 1000) (hq : 0 ≤ k.toInt) (c : ¬ x0 ≤ k) : 0 ≤ (g + 1).toInt ∧ (g + 1).toInt + (x0.toInt - (k + 1).toInt) ≤ 1000 := by
  have a := ob_nle c
  have a2 := ob_nlt h2
  rw [e_8] at a2
  rw [ti_add (a := g) (by rw [e_1]; omega) (by rw [e_1]; omega), ti_add (a := k) (by rw [e_1]; omega) (by rw [e_1]; omega), e_1]
  omega
theorem inp_base {x0 g : Int32} (h1 : ¬ x0 < 1) (h2 : ¬ 8 < x0) (h3 : g + x0 ≤ 1000) (hp0 : 0 ≤ g.toInt ∧ g.toInt ≤ 1000) : 0 ≤ g.toInt ∧ g.toInt + (x0.toInt - (0 : Int32).toInt) ≤ 1000 := by
  have a1 := ob_nlt h1
  have a2 := ob_nlt h2
  have a3 := ti_le h3
  rw [e_1] at a1
  rw [e_8] at a2
  rw [ti_add (by omega) (by omega), e_1000] at a3
  rw [e_0]
  omega
theorem ob_lt32 {x : Int32} (h : ¬ 32 ≤ x) : x < 32 := Int32.lt_iff_toInt_lt.mpr (ob_nle h)
def mF_StepMachineModel_segment_1 (m_sf : Nat → Int32) (m_ss : Nat → Int32) (m_sr : Nat → Int32) (x0 : Int32) (x1 : Int32) (x2 : Int32) (x3 : Int32) (q_67 : Int32) : Int32 × (Nat → Int32) × (Nat → Int32) × (Nat → Int32) × Int32 := (1, (upd m_sf x0.toNatClampNeg x1), (upd m_ss x0.toNatClampNeg x2), (upd m_sr x0.toNatClampNeg x3), q_67)
def mF_StepMachineModel_segment (m_kc : Int32) (m_sf : Nat → Int32) (m_ss : Nat → Int32) (m_sr : Nat → Int32) (x0 : Int32) (x1 : Int32) (x2 : Int32) (x3 : Int32) : Int32 × (Nat → Int32) × (Nat → Int32) × (Nat → Int32) × Int32 := (if x0 < 0 then (0, m_sf, m_ss, m_sr, m_kc) else (if 7 < x0 then (0, m_sf, m_ss, m_sr, m_kc) else (if x1 < 0 then (0, m_sf, m_ss, m_sr, m_kc) else (if x2 < 0 then (0, m_sf, m_ss, m_sr, m_kc) else (if 0 < (lg_cmp (x1.toInt64 + x2.toInt64) 131072) then (0, m_sf, m_ss, m_sr, m_kc) else (if x3 < 0 then (0, m_sf, m_ss, m_sr, m_kc) else (if x3 ≤ 7 then (mF_StepMachineModel_segment_1 m_sf m_ss m_sr x0 x1 x2 x3 mF_StepMachineModel_forget) else (0, m_sf, m_ss, m_sr, m_kc))))))))
set_option maxHeartbeats 4000000 in
set_option maxRecDepth 100000 in
theorem mc_StepMachineModel_segment (l : Launch) (D : va_G) (tc : Nat → ClassId) (tb : Nat → Nat) (z0 : Nat) (sz : Nat) (b_x b_sf b_ss b_sr b_row b_part b_mem b_mrk b_h b_r b_in b_out b_k : Nat) (m_on : Int32) (m_hc : Int32) (m_pc : Int32) (m_giv : Int32) (m_tak : Int32) (m_put : Int32) (m_st : Int32) (m_cu : Int32) (m_va : Int32) (m_sp : Int32) (m_un : Int32) (m_kc : Int32) (m_kn : Int32) (m_by : Int32) (m_kd : Int32) (m_tg : Int32) (m_ju : Int32) (m_sf : Nat → Int32) (m_ss : Nat → Int32) (m_sr : Nat → Int32) (x0 : Int32) (x1 : Int32) (x2 : Int32) (x3 : Int32) : Met l y_M_segment (wM y_M_segment b_M_segment 5 (some .boolean)) ({ frames := 1, cells := 0, slots := 0, locals := 20 }) (va_Pc [.ref b_x, .int x0, .int x1, .int x2, .int x3] (Pw D tc tb z0 [(b_x, .inr (9, [.ref b_row, .ref b_part, .ref b_mem, .ref b_mrk, .ref b_sf, .ref b_ss, .ref b_sr, .int m_on, .ref b_h, .int m_hc, .ref b_r, .int m_pc, .ref b_in, .int m_giv, .int m_tak, .ref b_out, .int m_put, .int m_st, .int m_cu, .int m_va, .int m_sp, .int m_un, .ref b_k, .int m_kc, .int m_kn, .int m_by, .int m_kd, .int m_tg, .int m_ju])), (b_sf, .inl (tc 0, 8, .inl m_sf)), (b_ss, .inl (tc 0, 8, .inl m_ss)), (b_sr, .inl (tc 0, 8, .inl m_sr))] sz)) (va_Qi (fun (r : Int32) (u : (Nat → Int32) × (Nat → Int32) × (Nat → Int32) × Int32) => (r, u) = (mF_StepMachineModel_segment m_kc m_sf m_ss m_sr x0 x1 x2 x3)) (Bw D tc (va_A [(b_x, .inr (9, [.ref b_row, .ref b_part, .ref b_mem, .ref b_mrk, .ref b_sf, .ref b_ss, .ref b_sr, .int m_on, .ref b_h, .int m_hc, .ref b_r, .int m_pc, .ref b_in, .int m_giv, .int m_tak, .ref b_out, .int m_put, .int m_st, .int m_cu, .int m_va, .int m_sp, .int m_un, .ref b_k, .int m_kc, .int m_kn, .int m_by, .int m_kd, .int m_tg, .int m_ju])), (b_sf, .inl (tc 0, 8, .inl m_sf)), (b_ss, .inl (tc 0, 8, .inl m_ss)), (b_sr, .inl (tc 0, 8, .inl m_sr))] sz) (fun u => [(b_x, .inr (9, [.ref b_row, .ref b_part, .ref b_mem, .ref b_mrk, .ref b_sf, .ref b_ss, .ref b_sr, .int m_on, .ref b_h, .int m_hc, .ref b_r, .int m_pc, .ref b_in, .int m_giv, .int m_tak, .ref b_out, .int m_put, .int m_st, .int m_cu, .int m_va, .int m_sp, .int m_un, .ref b_k, .int u.2.2.2, .int m_kn, .int m_by, .int m_kd, .int m_tg, .int m_ju])), (b_sf, .inl (tc 0, 8, .inl u.1)), (b_ss, .inl (tc 0, 8, .inl u.2.1)), (b_sr, .inl (tc 0, 8, .inl u.2.2.1))])) (va_A [(b_x, .inr (9, [.ref b_row, .ref b_part, .ref b_mem, .ref b_mrk, .ref b_sf, .ref b_ss, .ref b_sr, .int m_on, .ref b_h, .int m_hc, .ref b_r, .int m_pc, .ref b_in, .int m_giv, .int m_tak, .ref b_out, .int m_put, .int m_st, .int m_cu, .int m_va, .int m_sp, .int m_un, .ref b_k, .int m_kc, .int m_kn, .int m_by, .int m_kd, .int m_tg, .int m_ju])), (b_sf, .inl (tc 0, 8, .inl m_sf)), (b_ss, .inl (tc 0, 8, .inl m_ss)), (b_sr, .inl (tc 0, 8, .inl m_sr))] sz)) 0 0 (va_A [(b_x, .inr (9, [.ref b_row, .ref b_part, .ref b_mem, .ref b_mrk, .ref b_sf, .ref b_ss, .ref b_sr, .int m_on, .ref b_h, .int m_hc, .ref b_r, .int m_pc, .ref b_in, .int m_giv, .int m_tak, .ref b_out, .int m_put, .int m_st, .int m_cu, .int m_va, .int m_sp, .int m_un, .ref b_k, .int m_kc, .int m_kn, .int m_by, .int m_kd, .int m_tg, .int m_ju])), (b_sf, .inl (tc 0, 8, .inl m_sf)), (b_ss, .inl (tc 0, 8, .inl m_ss)), (b_sr, .inl (tc 0, 8, .inl m_sr))] sz) := by
  refine Met.ofW (cc := b_M_segment) (maxL := 5) (ret := (some .boolean)) (by decide) rfl ?_
  intro p e s m args below meth c s₁ B hml hv
  obtain ⟨rfl, hsz, hP, hK, hB, hD0, hZ0⟩ := hv
  have hx := B.exec
  have hb := B.bytes
  have hr := B.returns
  have hts : ∀ w ∈ wALL, w.before _ s = true := fun w h => atoms_spec (ws := (wM y_M_segment b_M_segment 5 (some .boolean))) B.pre w (List.mem_cons_of_mem _ h)
  have hown : s.vm.findClass "StepMachineModel" = some m.cls := findClass_of_methodNamed B.named
  have hlocks := B.notSynchronized
  subst hsz
  have hD := hD0.self (sz := s.heap.size)
  generalize hAe : va_A [(b_x, .inr (9, [.ref b_row, .ref b_part, .ref b_mem, .ref b_mrk, .ref b_sf, .ref b_ss, .ref b_sr, .int m_on, .ref b_h, .int m_hc, .ref b_r, .int m_pc, .ref b_in, .int m_giv, .int m_tak, .ref b_out, .int m_put, .int m_st, .int m_cu, .int m_va, .int m_sp, .int m_un, .ref b_k, .int m_kc, .int m_kn, .int m_by, .int m_kd, .int m_tg, .int m_ju])), (b_sf, .inl (tc 0, 8, .inl m_sf)), (b_ss, .inl (tc 0, 8, .inl m_ss)), (b_sr, .inl (tc 0, 8, .inl m_sr))] s.heap.size = A at hD ⊢
  have hZ : ∀ q : Nat, A q → z0 ≤ q := by rw [← hAe]; exact hZ0
  have hA : ∀ q : Nat, s.heap.size ≤ q → A q := fun q h => by rw [← hAe]; exact Or.inr h
  have hS : va_S A s.heap s.heap [] := va_S.rf
  have hl := lv_entry ([.ref b_x, .int x0, .int x1, .int x2, .int x3]) (n := 5) (Nat.le_of_ble_eq_true rfl)
  rw [lg_entry_eq]
  generalize (lg_sl ([.ref b_x, .int x0, .int x1, .int x2, .int x3]) ++ List.replicate (5 - (lg_sl ([.ref b_x, .int x0, .int x1, .int x2, .int x3])).length) Slot.unset).toArray = ls at hl ⊢
  have hl : lv_has ls 5 [(0, .ref b_x), (1, .int x0), (2, .int x1), (3, .int x2), (4, .int x3)] := hl
  refine lv_iload_n hx hb d_M_segment_0 rfl (lv_at hl 1 rfl) ?_
  refine lv_if_lt (tgt := 42) hx hb d_M_segment_1 (by decide) (fun c_1 => ?_) (fun c_1 => ?_)
  · skip
    refine lv_iconst (v := 0) hx hb d_M_segment_42 (by decide) ?_
    exact W.zret (v := 0) hx hb hr rfl (fun t ht hW => ⟨⟨_, (m_sf, m_ss, m_sr, m_kc), rfl, by rw [mF_StepMachineModel_segment, if_pos c_1], by rw [ht]; exact hP, va_K.moved hW.alike hK, hD⟩, hS.F ht⟩) hS.2.2 d_M_segment_43
  · skip
    refine lv_iload_n hx hb d_M_segment_4 rfl (lv_at hl 1 rfl) ?_
    refine lv_bipush (v := 7) hx hb d_M_segment_5 (by decide) ?_
    refine lv_icmp_gt (tgt := 42) hx hb d_M_segment_7 (by decide) (fun c_7 => ?_) (fun c_7 => ?_)
    · skip
      refine lv_iconst (v := 0) hx hb d_M_segment_42 (by decide) ?_
      exact W.zret (v := 0) hx hb hr rfl (fun t ht hW => ⟨⟨_, (m_sf, m_ss, m_sr, m_kc), rfl, by rw [mF_StepMachineModel_segment, if_neg c_1, if_pos c_7], by rw [ht]; exact hP, va_K.moved hW.alike hK, hD⟩, hS.F ht⟩) hS.2.2 d_M_segment_43
    · skip
      refine lv_iload_n hx hb d_M_segment_10 rfl (lv_at hl 2 rfl) ?_
      refine lv_if_lt (tgt := 42) hx hb d_M_segment_11 (by decide) (fun c_11 => ?_) (fun c_11 => ?_)
      · skip
        refine lv_iconst (v := 0) hx hb d_M_segment_42 (by decide) ?_
        exact W.zret (v := 0) hx hb hr rfl (fun t ht hW => ⟨⟨_, (m_sf, m_ss, m_sr, m_kc), rfl, by rw [mF_StepMachineModel_segment, if_neg c_1, if_neg c_7, if_pos c_11], by rw [ht]; exact hP, va_K.moved hW.alike hK, hD⟩, hS.F ht⟩) hS.2.2 d_M_segment_43
      · skip
        refine lv_iload_n hx hb d_M_segment_14 rfl (lv_at hl 3 rfl) ?_
        refine lv_if_lt (tgt := 42) hx hb d_M_segment_15 (by decide) (fun c_15 => ?_) (fun c_15 => ?_)
        · skip
          refine lv_iconst (v := 0) hx hb d_M_segment_42 (by decide) ?_
          exact W.zret (v := 0) hx hb hr rfl (fun t ht hW => ⟨⟨_, (m_sf, m_ss, m_sr, m_kc), rfl, by rw [mF_StepMachineModel_segment, if_neg c_1, if_neg c_7, if_neg c_11, if_pos c_15], by rw [ht]; exact hP, va_K.moved hW.alike hK, hD⟩, hS.F ht⟩) hS.2.2 d_M_segment_43
        · skip
          refine lv_iload_n hx hb d_M_segment_18 rfl (lv_at hl 2 rfl) ?_
          refine lv_i2l (v := x1.toInt64) hx hb d_M_segment_19 rfl ?_
          refine lv_iload_n hx hb d_M_segment_20 rfl (lv_at hl 3 rfl) ?_
          refine lv_i2l (v := x2.toInt64) hx hb d_M_segment_21 rfl ?_
          refine lv_ladd hx hb d_M_segment_22 ?_
          refine lv_ldc2 (v := 131072) hx hb hown (hts _ a_696) d_M_segment_23 ?_
          refine W.lcmp hx hb d_M_segment_26 ?_
          refine lv_if_gt (tgt := 42) hx hb d_M_segment_27 (by decide) (fun c_27 => ?_) (fun c_27 => ?_)
          · skip
            refine lv_iconst (v := 0) hx hb d_M_segment_42 (by decide) ?_
            exact W.zret (v := 0) hx hb hr rfl (fun t ht hW => ⟨⟨_, (m_sf, m_ss, m_sr, m_kc), rfl, by rw [mF_StepMachineModel_segment, if_neg c_1, if_neg c_7, if_neg c_11, if_neg c_15, if_pos c_27], by rw [ht]; exact hP, va_K.moved hW.alike hK, hD⟩, hS.F ht⟩) hS.2.2 d_M_segment_43
          · skip
            refine lv_iload hx hb d_M_segment_30 (lv_at hl 4 rfl) ?_
            refine lv_if_lt (tgt := 42) hx hb d_M_segment_32 (by decide) (fun c_32 => ?_) (fun c_32 => ?_)
            · skip
              refine lv_iconst (v := 0) hx hb d_M_segment_42 (by decide) ?_
              exact W.zret (v := 0) hx hb hr rfl (fun t ht hW => ⟨⟨_, (m_sf, m_ss, m_sr, m_kc), rfl, by rw [mF_StepMachineModel_segment, if_neg c_1, if_neg c_7, if_neg c_11, if_neg c_15, if_neg c_27, if_pos c_32], by rw [ht]; exact hP, va_K.moved hW.alike hK, hD⟩, hS.F ht⟩) hS.2.2 d_M_segment_43
            · skip
              refine lv_iload hx hb d_M_segment_35 (lv_at hl 4 rfl) ?_
              refine lv_bipush (v := 7) hx hb d_M_segment_37 (by decide) ?_
              refine lv_icmp_le (tgt := 44) hx hb d_M_segment_39 (by decide) (fun c_39 => ?_) (fun c_39 => ?_)
              · skip
                refine lv_aload_n hx hb d_M_segment_44 rfl (lv_at hl 0 rfl) ?_
                refine va_get (D := D) (ci := 9) (v := .ref b_sf) (C := "StepMachineModel") (T := TX9) (N := 29) hx hb hts inU_9 hown hK hP 0 rfl rfl 4 (by decide) (hts _ a_637) (fun _ h9 => h9) rfl d_M_segment_45 ?_
                refine lv_iload_n hx hb d_M_segment_48 rfl (lv_at hl 1 rfl) ?_
                refine lv_iload_n hx hb d_M_segment_49 rfl (lv_at hl 2 rfl) ?_
                refine va_iast hx hb hK hP hD hS 1 0 rfl rfl (in_8b c_1 c_7) d_M_segment_50 (fun H locs hP hD hS => ?_)
                have hP : va_P D vwCl [(b_x, .inr (9, [.ref b_row, .ref b_part, .ref b_mem, .ref b_mrk, .ref b_sf, .ref b_ss, .ref b_sr, .int m_on, .ref b_h, .int m_hc, .ref b_r, .int m_pc, .ref b_in, .int m_giv, .int m_tak, .ref b_out, .int m_put, .int m_st, .int m_cu, .int m_va, .int m_sp, .int m_un, .ref b_k, .int m_kc, .int m_kn, .int m_by, .int m_kd, .int m_tg, .int m_ju])), (b_sf, .inl (tc 0, 8, .inl (upd m_sf x0.toNatClampNeg x1))), (b_ss, .inl (tc 0, 8, .inl m_ss)), (b_sr, .inl (tc 0, 8, .inl m_sr))] H := hP
                have hD : va_D A [(b_x, .inr (9, [.ref b_row, .ref b_part, .ref b_mem, .ref b_mrk, .ref b_sf, .ref b_ss, .ref b_sr, .int m_on, .ref b_h, .int m_hc, .ref b_r, .int m_pc, .ref b_in, .int m_giv, .int m_tak, .ref b_out, .int m_put, .int m_st, .int m_cu, .int m_va, .int m_sp, .int m_un, .ref b_k, .int m_kc, .int m_kn, .int m_by, .int m_kd, .int m_tg, .int m_ju])), (b_sf, .inl (tc 0, 8, .inl (upd m_sf x0.toNatClampNeg x1))), (b_ss, .inl (tc 0, 8, .inl m_ss)), (b_sr, .inl (tc 0, 8, .inl m_sr))] := hD
                refine lv_aload_n hx hb d_M_segment_51 rfl (lv_at hl 0 rfl) ?_
                refine va_get (D := D) (ci := 9) (v := .ref b_ss) (C := "StepMachineModel") (T := TX9) (N := 29) hx hb hts inU_9 hown hK hP 0 rfl rfl 5 (by decide) (hts _ a_638) (fun _ h9 => h9) rfl d_M_segment_52 ?_
                refine lv_iload_n hx hb d_M_segment_55 rfl (lv_at hl 1 rfl) ?_
                refine lv_iload_n hx hb d_M_segment_56 rfl (lv_at hl 3 rfl) ?_
                refine va_iast hx hb hK hP hD hS 2 0 rfl rfl (in_8b c_1 c_7) d_M_segment_57 (fun H locs hP hD hS => ?_)
                have hP : va_P D vwCl [(b_x, .inr (9, [.ref b_row, .ref b_part, .ref b_mem, .ref b_mrk, .ref b_sf, .ref b_ss, .ref b_sr, .int m_on, .ref b_h, .int m_hc, .ref b_r, .int m_pc, .ref b_in, .int m_giv, .int m_tak, .ref b_out, .int m_put, .int m_st, .int m_cu, .int m_va, .int m_sp, .int m_un, .ref b_k, .int m_kc, .int m_kn, .int m_by, .int m_kd, .int m_tg, .int m_ju])), (b_sf, .inl (tc 0, 8, .inl (upd m_sf x0.toNatClampNeg x1))), (b_ss, .inl (tc 0, 8, .inl (upd m_ss x0.toNatClampNeg x2))), (b_sr, .inl (tc 0, 8, .inl m_sr))] H := hP
                have hD : va_D A [(b_x, .inr (9, [.ref b_row, .ref b_part, .ref b_mem, .ref b_mrk, .ref b_sf, .ref b_ss, .ref b_sr, .int m_on, .ref b_h, .int m_hc, .ref b_r, .int m_pc, .ref b_in, .int m_giv, .int m_tak, .ref b_out, .int m_put, .int m_st, .int m_cu, .int m_va, .int m_sp, .int m_un, .ref b_k, .int m_kc, .int m_kn, .int m_by, .int m_kd, .int m_tg, .int m_ju])), (b_sf, .inl (tc 0, 8, .inl (upd m_sf x0.toNatClampNeg x1))), (b_ss, .inl (tc 0, 8, .inl (upd m_ss x0.toNatClampNeg x2))), (b_sr, .inl (tc 0, 8, .inl m_sr))] := hD
                refine lv_aload_n hx hb d_M_segment_58 rfl (lv_at hl 0 rfl) ?_
                refine va_get (D := D) (ci := 9) (v := .ref b_sr) (C := "StepMachineModel") (T := TX9) (N := 29) hx hb hts inU_9 hown hK hP 0 rfl rfl 6 (by decide) (hts _ a_639) (fun _ h9 => h9) rfl d_M_segment_59 ?_
                refine lv_iload_n hx hb d_M_segment_62 rfl (lv_at hl 1 rfl) ?_
                refine lv_iload hx hb d_M_segment_63 (lv_at hl 4 rfl) ?_
                refine va_iast hx hb hK hP hD hS 3 0 rfl rfl (in_8b c_1 c_7) d_M_segment_65 (fun H locs hP hD hS => ?_)
                have hP : va_P D vwCl [(b_x, .inr (9, [.ref b_row, .ref b_part, .ref b_mem, .ref b_mrk, .ref b_sf, .ref b_ss, .ref b_sr, .int m_on, .ref b_h, .int m_hc, .ref b_r, .int m_pc, .ref b_in, .int m_giv, .int m_tak, .ref b_out, .int m_put, .int m_st, .int m_cu, .int m_va, .int m_sp, .int m_un, .ref b_k, .int m_kc, .int m_kn, .int m_by, .int m_kd, .int m_tg, .int m_ju])), (b_sf, .inl (tc 0, 8, .inl (upd m_sf x0.toNatClampNeg x1))), (b_ss, .inl (tc 0, 8, .inl (upd m_ss x0.toNatClampNeg x2))), (b_sr, .inl (tc 0, 8, .inl (upd m_sr x0.toNatClampNeg x3)))] H := hP
                have hD : va_D A [(b_x, .inr (9, [.ref b_row, .ref b_part, .ref b_mem, .ref b_mrk, .ref b_sf, .ref b_ss, .ref b_sr, .int m_on, .ref b_h, .int m_hc, .ref b_r, .int m_pc, .ref b_in, .int m_giv, .int m_tak, .ref b_out, .int m_put, .int m_st, .int m_cu, .int m_va, .int m_sp, .int m_un, .ref b_k, .int m_kc, .int m_kn, .int m_by, .int m_kd, .int m_tg, .int m_ju])), (b_sf, .inl (tc 0, 8, .inl (upd m_sf x0.toNatClampNeg x1))), (b_ss, .inl (tc 0, 8, .inl (upd m_ss x0.toNatClampNeg x2))), (b_sr, .inl (tc 0, 8, .inl (upd m_sr x0.toNatClampNeg x3)))] := hD
                refine lv_aload_n hx hb d_M_segment_66 rfl (lv_at hl 0 rfl) ?_
                obtain ⟨q_67, e_67⟩ : ∃ z, z = mF_StepMachineModel_forget := ⟨_, rfl⟩
                refine wVv (As := []) (rest := []) e_67 ⟨hx, hb, hml, hown, hts⟩ (mc_StepMachineModel_forget l D tc tb z0 _ b_x b_row b_part b_mem b_mrk b_sf b_ss b_sr b_h b_r b_in b_out b_k m_on m_hc m_pc m_giv m_tak m_put m_st m_cu m_va m_sp m_un m_kc m_kn m_by m_kd m_tg m_ju) (cwV 0 hts (goodV a_697 a_698 a_917 a_10 a_699) rfl rfl rfl hv_M_forget ⟨Nat.le_of_ble_eq_true rfl, Nat.le_of_ble_eq_true rfl⟩) hP hD hS hA hZ hK hB [0] rfl (by decide) (fun _ => rfl) rfl rfl rfl hl.1 rfl (Nat.le_of_ble_eq_true rfl) d_M_segment_67 ⟨Nat.zero_le _, Nat.zero_le _⟩ (fun H locs hP hD hS => ?_)
                have hP : va_P D vwCl [(b_x, .inr (9, [.ref b_row, .ref b_part, .ref b_mem, .ref b_mrk, .ref b_sf, .ref b_ss, .ref b_sr, .int m_on, .ref b_h, .int m_hc, .ref b_r, .int m_pc, .ref b_in, .int m_giv, .int m_tak, .ref b_out, .int m_put, .int m_st, .int m_cu, .int m_va, .int m_sp, .int m_un, .ref b_k, .int q_67, .int m_kn, .int m_by, .int m_kd, .int m_tg, .int m_ju])), (b_sf, .inl (tc 0, 8, .inl (upd m_sf x0.toNatClampNeg x1))), (b_ss, .inl (tc 0, 8, .inl (upd m_ss x0.toNatClampNeg x2))), (b_sr, .inl (tc 0, 8, .inl (upd m_sr x0.toNatClampNeg x3)))] H := hP
                have hD : va_D A [(b_x, .inr (9, [.ref b_row, .ref b_part, .ref b_mem, .ref b_mrk, .ref b_sf, .ref b_ss, .ref b_sr, .int m_on, .ref b_h, .int m_hc, .ref b_r, .int m_pc, .ref b_in, .int m_giv, .int m_tak, .ref b_out, .int m_put, .int m_st, .int m_cu, .int m_va, .int m_sp, .int m_un, .ref b_k, .int q_67, .int m_kn, .int m_by, .int m_kd, .int m_tg, .int m_ju])), (b_sf, .inl (tc 0, 8, .inl (upd m_sf x0.toNatClampNeg x1))), (b_ss, .inl (tc 0, 8, .inl (upd m_ss x0.toNatClampNeg x2))), (b_sr, .inl (tc 0, 8, .inl (upd m_sr x0.toNatClampNeg x3)))] := hD
                refine lv_iconst (v := 1) hx hb d_M_segment_70 (by decide) ?_
                exact W.zret (v := 1) hx hb hr rfl (fun t ht hW => ⟨⟨_, ((upd m_sf x0.toNatClampNeg x1), (upd m_ss x0.toNatClampNeg x2), (upd m_sr x0.toNatClampNeg x3), q_67), rfl, by rw [mF_StepMachineModel_segment, if_neg c_1, if_neg c_7, if_neg c_11, if_neg c_15, if_neg c_27, if_neg c_32, if_pos c_39, ← e_67, mF_StepMachineModel_segment_1], by rw [ht]; exact hP, va_K.moved hW.alike hK, hD⟩, hS.F ht⟩) hS.2.2 d_M_segment_71
              · skip
                refine lv_iconst (v := 0) hx hb d_M_segment_42 (by decide) ?_
                exact W.zret (v := 0) hx hb hr rfl (fun t ht hW => ⟨⟨_, (m_sf, m_ss, m_sr, m_kc), rfl, by rw [mF_StepMachineModel_segment, if_neg c_1, if_neg c_7, if_neg c_11, if_neg c_15, if_neg c_27, if_neg c_32, if_neg c_39], by rw [ht]; exact hP, va_K.moved hW.alike hK, hD⟩, hS.F ht⟩) hS.2.2 d_M_segment_43
def mF_StepMachineModel_mark_1 (m_mrk : Nat → Int32) (x0 : Int32) (x1 : Int32) (q_28 : Int32) : Int32 × (Nat → Int32) × Int32 := (1, (upd m_mrk (x0 / 2).toNatClampNeg (vp_nar .boolean x1)), q_28)
def mF_StepMachineModel_mark (m_kc : Int32) (m_mrk : Nat → Int32) (x0 : Int32) (x1 : Int32) : Int32 × (Nat → Int32) × Int32 := (if x0 < 0 then (0, m_mrk, m_kc) else (if 131072 ≤ x0 then (0, m_mrk, m_kc) else (if (x0 - x0 / 2 * 2) = 0 then (mF_StepMachineModel_mark_1 m_mrk x0 x1 mF_StepMachineModel_forget) else (0, m_mrk, m_kc))))
set_option maxHeartbeats 4000000 in
set_option maxRecDepth 100000 in
theorem mc_StepMachineModel_mark (l : Launch) (D : va_G) (tc : Nat → ClassId) (tb : Nat → Nat) (z0 : Nat) (sz : Nat) (b_x b_mrk b_row b_part b_mem b_sf b_ss b_sr b_h b_r b_in b_out b_k : Nat) (m_on : Int32) (m_hc : Int32) (m_pc : Int32) (m_giv : Int32) (m_tak : Int32) (m_put : Int32) (m_st : Int32) (m_cu : Int32) (m_va : Int32) (m_sp : Int32) (m_un : Int32) (m_kc : Int32) (m_kn : Int32) (m_by : Int32) (m_kd : Int32) (m_tg : Int32) (m_ju : Int32) (m_mrk : Nat → Int32) (x0 : Int32) (x1 : Int32) : Met l y_M_mark (wM y_M_mark b_M_mark 3 (some .boolean)) ({ frames := 1, cells := 0, slots := 0, locals := 20 }) (va_Pc [.ref b_x, .int x0, .int x1] (Pw D tc tb z0 [(b_x, .inr (9, [.ref b_row, .ref b_part, .ref b_mem, .ref b_mrk, .ref b_sf, .ref b_ss, .ref b_sr, .int m_on, .ref b_h, .int m_hc, .ref b_r, .int m_pc, .ref b_in, .int m_giv, .int m_tak, .ref b_out, .int m_put, .int m_st, .int m_cu, .int m_va, .int m_sp, .int m_un, .ref b_k, .int m_kc, .int m_kn, .int m_by, .int m_kd, .int m_tg, .int m_ju])), (b_mrk, .inl (tc 2, 65536, .inl m_mrk))] sz)) (va_Qi (fun (r : Int32) (u : (Nat → Int32) × Int32) => (r, u) = (mF_StepMachineModel_mark m_kc m_mrk x0 x1)) (Bw D tc (va_A [(b_x, .inr (9, [.ref b_row, .ref b_part, .ref b_mem, .ref b_mrk, .ref b_sf, .ref b_ss, .ref b_sr, .int m_on, .ref b_h, .int m_hc, .ref b_r, .int m_pc, .ref b_in, .int m_giv, .int m_tak, .ref b_out, .int m_put, .int m_st, .int m_cu, .int m_va, .int m_sp, .int m_un, .ref b_k, .int m_kc, .int m_kn, .int m_by, .int m_kd, .int m_tg, .int m_ju])), (b_mrk, .inl (tc 2, 65536, .inl m_mrk))] sz) (fun u => [(b_x, .inr (9, [.ref b_row, .ref b_part, .ref b_mem, .ref b_mrk, .ref b_sf, .ref b_ss, .ref b_sr, .int m_on, .ref b_h, .int m_hc, .ref b_r, .int m_pc, .ref b_in, .int m_giv, .int m_tak, .ref b_out, .int m_put, .int m_st, .int m_cu, .int m_va, .int m_sp, .int m_un, .ref b_k, .int u.2, .int m_kn, .int m_by, .int m_kd, .int m_tg, .int m_ju])), (b_mrk, .inl (tc 2, 65536, .inl u.1))])) (va_A [(b_x, .inr (9, [.ref b_row, .ref b_part, .ref b_mem, .ref b_mrk, .ref b_sf, .ref b_ss, .ref b_sr, .int m_on, .ref b_h, .int m_hc, .ref b_r, .int m_pc, .ref b_in, .int m_giv, .int m_tak, .ref b_out, .int m_put, .int m_st, .int m_cu, .int m_va, .int m_sp, .int m_un, .ref b_k, .int m_kc, .int m_kn, .int m_by, .int m_kd, .int m_tg, .int m_ju])), (b_mrk, .inl (tc 2, 65536, .inl m_mrk))] sz)) 0 0 (va_A [(b_x, .inr (9, [.ref b_row, .ref b_part, .ref b_mem, .ref b_mrk, .ref b_sf, .ref b_ss, .ref b_sr, .int m_on, .ref b_h, .int m_hc, .ref b_r, .int m_pc, .ref b_in, .int m_giv, .int m_tak, .ref b_out, .int m_put, .int m_st, .int m_cu, .int m_va, .int m_sp, .int m_un, .ref b_k, .int m_kc, .int m_kn, .int m_by, .int m_kd, .int m_tg, .int m_ju])), (b_mrk, .inl (tc 2, 65536, .inl m_mrk))] sz) := by
  refine Met.ofW (cc := b_M_mark) (maxL := 3) (ret := (some .boolean)) (by decide) rfl ?_
  intro p e s m args below meth c s₁ B hml hv
  obtain ⟨rfl, hsz, hP, hK, hB, hD0, hZ0⟩ := hv
  have hx := B.exec
  have hb := B.bytes
  have hr := B.returns
  have hts : ∀ w ∈ wALL, w.before _ s = true := fun w h => atoms_spec (ws := (wM y_M_mark b_M_mark 3 (some .boolean))) B.pre w (List.mem_cons_of_mem _ h)
  have hown : s.vm.findClass "StepMachineModel" = some m.cls := findClass_of_methodNamed B.named
  have hlocks := B.notSynchronized
  subst hsz
  have hD := hD0.self (sz := s.heap.size)
  generalize hAe : va_A [(b_x, .inr (9, [.ref b_row, .ref b_part, .ref b_mem, .ref b_mrk, .ref b_sf, .ref b_ss, .ref b_sr, .int m_on, .ref b_h, .int m_hc, .ref b_r, .int m_pc, .ref b_in, .int m_giv, .int m_tak, .ref b_out, .int m_put, .int m_st, .int m_cu, .int m_va, .int m_sp, .int m_un, .ref b_k, .int m_kc, .int m_kn, .int m_by, .int m_kd, .int m_tg, .int m_ju])), (b_mrk, .inl (tc 2, 65536, .inl m_mrk))] s.heap.size = A at hD ⊢
  have hZ : ∀ q : Nat, A q → z0 ≤ q := by rw [← hAe]; exact hZ0
  have hA : ∀ q : Nat, s.heap.size ≤ q → A q := fun q h => by rw [← hAe]; exact Or.inr h
  have hS : va_S A s.heap s.heap [] := va_S.rf
  have hl := lv_entry ([.ref b_x, .int x0, .int x1]) (n := 3) (Nat.le_of_ble_eq_true rfl)
  rw [lg_entry_eq]
  generalize (lg_sl ([.ref b_x, .int x0, .int x1]) ++ List.replicate (3 - (lg_sl ([.ref b_x, .int x0, .int x1])).length) Slot.unset).toArray = ls at hl ⊢
  have hl : lv_has ls 3 [(0, .ref b_x), (1, .int x0), (2, .int x1)] := hl
  refine lv_iload_n hx hb d_M_mark_0 rfl (lv_at hl 1 rfl) ?_
  refine lv_if_lt (tgt := 16) hx hb d_M_mark_1 (by decide) (fun c_1 => ?_) (fun c_1 => ?_)
  · skip
    refine lv_iconst (v := 0) hx hb d_M_mark_16 (by decide) ?_
    exact W.zret (v := 0) hx hb hr rfl (fun t ht hW => ⟨⟨_, (m_mrk, m_kc), rfl, by rw [mF_StepMachineModel_mark, if_pos c_1], by rw [ht]; exact hP, va_K.moved hW.alike hK, hD⟩, hS.F ht⟩) hS.2.2 d_M_mark_17
  · skip
    refine lv_iload_n hx hb d_M_mark_4 rfl (lv_at hl 1 rfl) ?_
    refine lv_ldc (v := 131072) hx hb hown (hts _ a_590) d_M_mark_5 ?_
    refine lv_icmp_ge (tgt := 16) hx hb d_M_mark_7 (by decide) (fun c_7 => ?_) (fun c_7 => ?_)
    · skip
      refine lv_iconst (v := 0) hx hb d_M_mark_16 (by decide) ?_
      exact W.zret (v := 0) hx hb hr rfl (fun t ht hW => ⟨⟨_, (m_mrk, m_kc), rfl, by rw [mF_StepMachineModel_mark, if_neg c_1, if_pos c_7], by rw [ht]; exact hP, va_K.moved hW.alike hK, hD⟩, hS.F ht⟩) hS.2.2 d_M_mark_17
    · skip
      refine lv_iload_n hx hb d_M_mark_10 rfl (lv_at hl 1 rfl) ?_
      refine lv_iconst (v := 2) hx hb d_M_mark_11 (by decide) ?_
      refine lv_irem hx hb d_M_mark_12 (by decide) ?_
      refine lv_if_eq (tgt := 18) hx hb d_M_mark_13 (by decide) (fun c_13 => ?_) (fun c_13 => ?_)
      · skip
        refine lv_aload_n hx hb d_M_mark_18 rfl (lv_at hl 0 rfl) ?_
        refine va_get (D := D) (ci := 9) (v := .ref b_mrk) (C := "StepMachineModel") (T := TX9) (N := 29) hx hb hts inU_9 hown hK hP 0 rfl rfl 3 (by decide) (hts _ a_636) (fun _ h9 => h9) rfl d_M_mark_19 ?_
        refine lv_iload_n hx hb d_M_mark_22 rfl (lv_at hl 1 rfl) ?_
        refine lv_iconst (v := 2) hx hb d_M_mark_23 (by decide) ?_
        refine lv_idiv hx hb d_M_mark_24 (by decide) ?_
        refine lv_iload_n hx hb d_M_mark_25 rfl (lv_at hl 2 rfl) ?_
        refine va_zast hx hb hK hP hD hS 1 2 rfl rfl (in_half c_1 c_7) d_M_mark_26 (fun H locs hP hD hS => ?_)
        have hP : va_P D vwCl [(b_x, .inr (9, [.ref b_row, .ref b_part, .ref b_mem, .ref b_mrk, .ref b_sf, .ref b_ss, .ref b_sr, .int m_on, .ref b_h, .int m_hc, .ref b_r, .int m_pc, .ref b_in, .int m_giv, .int m_tak, .ref b_out, .int m_put, .int m_st, .int m_cu, .int m_va, .int m_sp, .int m_un, .ref b_k, .int m_kc, .int m_kn, .int m_by, .int m_kd, .int m_tg, .int m_ju])), (b_mrk, .inl (tc 2, 65536, .inl (upd m_mrk (x0 / 2).toNatClampNeg (vp_nar .boolean x1))))] H := hP
        have hD : va_D A [(b_x, .inr (9, [.ref b_row, .ref b_part, .ref b_mem, .ref b_mrk, .ref b_sf, .ref b_ss, .ref b_sr, .int m_on, .ref b_h, .int m_hc, .ref b_r, .int m_pc, .ref b_in, .int m_giv, .int m_tak, .ref b_out, .int m_put, .int m_st, .int m_cu, .int m_va, .int m_sp, .int m_un, .ref b_k, .int m_kc, .int m_kn, .int m_by, .int m_kd, .int m_tg, .int m_ju])), (b_mrk, .inl (tc 2, 65536, .inl (upd m_mrk (x0 / 2).toNatClampNeg (vp_nar .boolean x1))))] := hD
        refine lv_aload_n hx hb d_M_mark_27 rfl (lv_at hl 0 rfl) ?_
        obtain ⟨q_28, e_28⟩ : ∃ z, z = mF_StepMachineModel_forget := ⟨_, rfl⟩
        refine wVv (As := []) (rest := []) e_28 ⟨hx, hb, hml, hown, hts⟩ (mc_StepMachineModel_forget l D tc tb z0 _ b_x b_row b_part b_mem b_mrk b_sf b_ss b_sr b_h b_r b_in b_out b_k m_on m_hc m_pc m_giv m_tak m_put m_st m_cu m_va m_sp m_un m_kc m_kn m_by m_kd m_tg m_ju) (cwV 0 hts (goodV a_697 a_698 a_917 a_10 a_699) rfl rfl rfl hv_M_forget ⟨Nat.le_of_ble_eq_true rfl, Nat.le_of_ble_eq_true rfl⟩) hP hD hS hA hZ hK hB [0] rfl (by decide) (fun _ => rfl) rfl rfl rfl hl.1 rfl (Nat.le_of_ble_eq_true rfl) d_M_mark_28 ⟨Nat.zero_le _, Nat.zero_le _⟩ (fun H locs hP hD hS => ?_)
        have hP : va_P D vwCl [(b_x, .inr (9, [.ref b_row, .ref b_part, .ref b_mem, .ref b_mrk, .ref b_sf, .ref b_ss, .ref b_sr, .int m_on, .ref b_h, .int m_hc, .ref b_r, .int m_pc, .ref b_in, .int m_giv, .int m_tak, .ref b_out, .int m_put, .int m_st, .int m_cu, .int m_va, .int m_sp, .int m_un, .ref b_k, .int q_28, .int m_kn, .int m_by, .int m_kd, .int m_tg, .int m_ju])), (b_mrk, .inl (tc 2, 65536, .inl (upd m_mrk (x0 / 2).toNatClampNeg (vp_nar .boolean x1))))] H := hP
        have hD : va_D A [(b_x, .inr (9, [.ref b_row, .ref b_part, .ref b_mem, .ref b_mrk, .ref b_sf, .ref b_ss, .ref b_sr, .int m_on, .ref b_h, .int m_hc, .ref b_r, .int m_pc, .ref b_in, .int m_giv, .int m_tak, .ref b_out, .int m_put, .int m_st, .int m_cu, .int m_va, .int m_sp, .int m_un, .ref b_k, .int q_28, .int m_kn, .int m_by, .int m_kd, .int m_tg, .int m_ju])), (b_mrk, .inl (tc 2, 65536, .inl (upd m_mrk (x0 / 2).toNatClampNeg (vp_nar .boolean x1))))] := hD
        refine lv_iconst (v := 1) hx hb d_M_mark_31 (by decide) ?_
        exact W.zret (v := 1) hx hb hr rfl (fun t ht hW => ⟨⟨_, ((upd m_mrk (x0 / 2).toNatClampNeg (vp_nar .boolean x1)), q_28), rfl, by rw [mF_StepMachineModel_mark, if_neg c_1, if_neg c_7, if_pos c_13, ← e_28, mF_StepMachineModel_mark_1], by rw [ht]; exact hP, va_K.moved hW.alike hK, hD⟩, hS.F ht⟩) hS.2.2 d_M_mark_32
      · skip
        refine lv_iconst (v := 0) hx hb d_M_mark_16 (by decide) ?_
        exact W.zret (v := 0) hx hb hr rfl (fun t ht hW => ⟨⟨_, (m_mrk, m_kc), rfl, by rw [mF_StepMachineModel_mark, if_neg c_1, if_neg c_7, if_neg c_13], by rw [ht]; exact hP, va_K.moved hW.alike hK, hD⟩, hS.F ht⟩) hS.2.2 d_M_mark_17
def mF_StepMachineModel_marking_1 (x0 : Int32) (q_6 : Int32) : Int32 × Int32 := (x0, q_6)
def mF_StepMachineModel_marking (x0 : Int32) : Int32 × Int32 := (mF_StepMachineModel_marking_1 x0 mF_StepMachineModel_forget)
set_option maxHeartbeats 4000000 in
set_option maxRecDepth 100000 in
theorem mc_StepMachineModel_marking (l : Launch) (D : va_G) (tc : Nat → ClassId) (tb : Nat → Nat) (z0 : Nat) (sz : Nat) (b_x b_row b_part b_mem b_mrk b_sf b_ss b_sr b_h b_r b_in b_out b_k : Nat) (m_on : Int32) (m_hc : Int32) (m_pc : Int32) (m_giv : Int32) (m_tak : Int32) (m_put : Int32) (m_st : Int32) (m_cu : Int32) (m_va : Int32) (m_sp : Int32) (m_un : Int32) (m_kc : Int32) (m_kn : Int32) (m_by : Int32) (m_kd : Int32) (m_tg : Int32) (m_ju : Int32) (x0 : Int32) (hz : x0 = 0 ∨ x0 = 1) : Met l y_M_marking (wM y_M_marking b_M_marking 2 none) ({ frames := 1, cells := 0, slots := 0, locals := 20 }) (va_Pc [.ref b_x, .int x0] (Pw D tc tb z0 [(b_x, .inr (9, [.ref b_row, .ref b_part, .ref b_mem, .ref b_mrk, .ref b_sf, .ref b_ss, .ref b_sr, .int m_on, .ref b_h, .int m_hc, .ref b_r, .int m_pc, .ref b_in, .int m_giv, .int m_tak, .ref b_out, .int m_put, .int m_st, .int m_cu, .int m_va, .int m_sp, .int m_un, .ref b_k, .int m_kc, .int m_kn, .int m_by, .int m_kd, .int m_tg, .int m_ju]))] sz)) (va_Qv (fun u : Int32 × Int32 => u = (mF_StepMachineModel_marking x0)) (Bw D tc (va_A [(b_x, .inr (9, [.ref b_row, .ref b_part, .ref b_mem, .ref b_mrk, .ref b_sf, .ref b_ss, .ref b_sr, .int m_on, .ref b_h, .int m_hc, .ref b_r, .int m_pc, .ref b_in, .int m_giv, .int m_tak, .ref b_out, .int m_put, .int m_st, .int m_cu, .int m_va, .int m_sp, .int m_un, .ref b_k, .int m_kc, .int m_kn, .int m_by, .int m_kd, .int m_tg, .int m_ju]))] sz) (fun u => [(b_x, .inr (9, [.ref b_row, .ref b_part, .ref b_mem, .ref b_mrk, .ref b_sf, .ref b_ss, .ref b_sr, .int u.1, .ref b_h, .int m_hc, .ref b_r, .int m_pc, .ref b_in, .int m_giv, .int m_tak, .ref b_out, .int m_put, .int m_st, .int m_cu, .int m_va, .int m_sp, .int m_un, .ref b_k, .int u.2, .int m_kn, .int m_by, .int m_kd, .int m_tg, .int m_ju]))])) (va_A [(b_x, .inr (9, [.ref b_row, .ref b_part, .ref b_mem, .ref b_mrk, .ref b_sf, .ref b_ss, .ref b_sr, .int m_on, .ref b_h, .int m_hc, .ref b_r, .int m_pc, .ref b_in, .int m_giv, .int m_tak, .ref b_out, .int m_put, .int m_st, .int m_cu, .int m_va, .int m_sp, .int m_un, .ref b_k, .int m_kc, .int m_kn, .int m_by, .int m_kd, .int m_tg, .int m_ju]))] sz)) 0 0 (va_A [(b_x, .inr (9, [.ref b_row, .ref b_part, .ref b_mem, .ref b_mrk, .ref b_sf, .ref b_ss, .ref b_sr, .int m_on, .ref b_h, .int m_hc, .ref b_r, .int m_pc, .ref b_in, .int m_giv, .int m_tak, .ref b_out, .int m_put, .int m_st, .int m_cu, .int m_va, .int m_sp, .int m_un, .ref b_k, .int m_kc, .int m_kn, .int m_by, .int m_kd, .int m_tg, .int m_ju]))] sz) := by
  refine Met.ofW (cc := b_M_marking) (maxL := 2) (ret := none) (by decide) rfl ?_
  intro p e s m args below meth c s₁ B hml hv
  obtain ⟨rfl, hsz, hP, hK, hB, hD0, hZ0⟩ := hv
  have hx := B.exec
  have hb := B.bytes
  have hr := B.returns
  have hts : ∀ w ∈ wALL, w.before _ s = true := fun w h => atoms_spec (ws := (wM y_M_marking b_M_marking 2 none)) B.pre w (List.mem_cons_of_mem _ h)
  have hown : s.vm.findClass "StepMachineModel" = some m.cls := findClass_of_methodNamed B.named
  have hlocks := B.notSynchronized
  subst hsz
  have hD := hD0.self (sz := s.heap.size)
  generalize hAe : va_A [(b_x, .inr (9, [.ref b_row, .ref b_part, .ref b_mem, .ref b_mrk, .ref b_sf, .ref b_ss, .ref b_sr, .int m_on, .ref b_h, .int m_hc, .ref b_r, .int m_pc, .ref b_in, .int m_giv, .int m_tak, .ref b_out, .int m_put, .int m_st, .int m_cu, .int m_va, .int m_sp, .int m_un, .ref b_k, .int m_kc, .int m_kn, .int m_by, .int m_kd, .int m_tg, .int m_ju]))] s.heap.size = A at hD ⊢
  have hZ : ∀ q : Nat, A q → z0 ≤ q := by rw [← hAe]; exact hZ0
  have hA : ∀ q : Nat, s.heap.size ≤ q → A q := fun q h => by rw [← hAe]; exact Or.inr h
  have hS : va_S A s.heap s.heap [] := va_S.rf
  have hl := lv_entry ([.ref b_x, .int x0]) (n := 2) (Nat.le_of_ble_eq_true rfl)
  rw [lg_entry_eq]
  generalize (lg_sl ([.ref b_x, .int x0]) ++ List.replicate (2 - (lg_sl ([.ref b_x, .int x0])).length) Slot.unset).toArray = ls at hl ⊢
  have hl : lv_has ls 2 [(0, .ref b_x), (1, .int x0)] := hl
  refine lv_aload_n hx hb d_M_marking_0 rfl (lv_at hl 0 rfl) ?_
  refine lv_iload_n hx hb d_M_marking_1 rfl (lv_at hl 1 rfl) ?_
  refine va_put (D := D) (ci := 9) (v := .int x0) (ty := .boolean) (C := "StepMachineModel") (T := TX9) (N := 29) hx hb hts inU_9 tyX9 tyX9_ok nmX9 hown hK hP hD hS 0 rfl rfl 7 (by decide) (hts _ a_640) (fun _ h9 => h9) rfl (by decide +kernel) (zb_of hz) (zf_of hz) (Nat.le_of_ble_eq_true rfl) d_M_marking_2 (fun H locs hP hD hS => ?_)
  have hP : va_P D vwCl [(b_x, .inr (9, [.ref b_row, .ref b_part, .ref b_mem, .ref b_mrk, .ref b_sf, .ref b_ss, .ref b_sr, .int x0, .ref b_h, .int m_hc, .ref b_r, .int m_pc, .ref b_in, .int m_giv, .int m_tak, .ref b_out, .int m_put, .int m_st, .int m_cu, .int m_va, .int m_sp, .int m_un, .ref b_k, .int m_kc, .int m_kn, .int m_by, .int m_kd, .int m_tg, .int m_ju]))] H := hP
  have hD : va_D A [(b_x, .inr (9, [.ref b_row, .ref b_part, .ref b_mem, .ref b_mrk, .ref b_sf, .ref b_ss, .ref b_sr, .int x0, .ref b_h, .int m_hc, .ref b_r, .int m_pc, .ref b_in, .int m_giv, .int m_tak, .ref b_out, .int m_put, .int m_st, .int m_cu, .int m_va, .int m_sp, .int m_un, .ref b_k, .int m_kc, .int m_kn, .int m_by, .int m_kd, .int m_tg, .int m_ju]))] := hD
  refine lv_aload_n hx hb d_M_marking_5 rfl (lv_at hl 0 rfl) ?_
  obtain ⟨q_6, e_6⟩ : ∃ z, z = mF_StepMachineModel_forget := ⟨_, rfl⟩
  refine wVv (As := []) (rest := []) e_6 ⟨hx, hb, hml, hown, hts⟩ (mc_StepMachineModel_forget l D tc tb z0 _ b_x b_row b_part b_mem b_mrk b_sf b_ss b_sr b_h b_r b_in b_out b_k x0 m_hc m_pc m_giv m_tak m_put m_st m_cu m_va m_sp m_un m_kc m_kn m_by m_kd m_tg m_ju) (cwV 0 hts (goodV a_697 a_698 a_917 a_10 a_699) rfl rfl rfl hv_M_forget ⟨Nat.le_of_ble_eq_true rfl, Nat.le_of_ble_eq_true rfl⟩) hP hD hS hA hZ hK hB [0] rfl (by decide) (fun _ => rfl) rfl rfl rfl hl.1 rfl (Nat.le_of_ble_eq_true rfl) d_M_marking_6 ⟨Nat.zero_le _, Nat.zero_le _⟩ (fun H locs hP hD hS => ?_)
  have hP : va_P D vwCl [(b_x, .inr (9, [.ref b_row, .ref b_part, .ref b_mem, .ref b_mrk, .ref b_sf, .ref b_ss, .ref b_sr, .int x0, .ref b_h, .int m_hc, .ref b_r, .int m_pc, .ref b_in, .int m_giv, .int m_tak, .ref b_out, .int m_put, .int m_st, .int m_cu, .int m_va, .int m_sp, .int m_un, .ref b_k, .int q_6, .int m_kn, .int m_by, .int m_kd, .int m_tg, .int m_ju]))] H := hP
  have hD : va_D A [(b_x, .inr (9, [.ref b_row, .ref b_part, .ref b_mem, .ref b_mrk, .ref b_sf, .ref b_ss, .ref b_sr, .int x0, .ref b_h, .int m_hc, .ref b_r, .int m_pc, .ref b_in, .int m_giv, .int m_tak, .ref b_out, .int m_put, .int m_st, .int m_cu, .int m_va, .int m_sp, .int m_un, .ref b_k, .int q_6, .int m_kn, .int m_by, .int m_kd, .int m_tg, .int m_ju]))] := hD
  exact W.vret hx hb hr (fun t ht hW => ⟨⟨(x0, q_6), rfl, by rw [mF_StepMachineModel_marking, ← e_6, mF_StepMachineModel_marking_1], by rw [ht]; exact hP, va_K.moved hW.alike hK, hD⟩, hS.F ht⟩) hS.2.2 d_M_marking_9
def mF_StepMachineModel_poke_L28 (x0 : Int32) (x1 : Int32) (x2 : Int64) : Nat → Int32 → (Nat → Int32) → Int32 × (Nat → Int32)
  | 0, k_28, m_memL => (k_28, m_memL)
  | n_ + 1, k_28, m_memL => (if x1 ≤ k_28 then (k_28, m_memL) else ((mF_StepMachineModel_poke_L28 x0 x1 x2 n_) (k_28 + 1) (upd m_memL (x0 + k_28).toNatClampNeg (((j_lshr x2 (56 - (8 * k_28))) &&& 255).toInt32))))
def mF_StepMachineModel_poke_2 (q_28 : Int32 × (Nat → Int32)) (q_65 : Int32) : Int32 × (Nat → Int32) × Int32 := (1, q_28.2, q_65)
def mF_StepMachineModel_poke_1  (q_28 : Int32 × (Nat → Int32)) : Int32 × (Nat → Int32) × Int32 := (mF_StepMachineModel_poke_2 q_28 mF_StepMachineModel_forget)
def mF_StepMachineModel_poke (m_kc : Int32) (m_mem : Nat → Int32) (x0 : Int32) (x1 : Int32) (x2 : Int64) : Int32 × (Nat → Int32) × Int32 := (if x1 < 1 then (0, m_mem, m_kc) else (if 8 < x1 then (0, m_mem, m_kc) else (if x0 < 0 then (0, m_mem, m_kc) else (if x0 ≤ (131072 - x1) then (mF_StepMachineModel_poke_1 (mF_StepMachineModel_poke_L28 x0 x1 x2 ((x1.toInt - (0 : Int32).toInt).toNat + 1) (0 : Int32) m_mem)) else (0, m_mem, m_kc)))))
set_option maxHeartbeats 4000000 in
set_option maxRecDepth 100000 in
theorem mc_StepMachineModel_poke (l : Launch) (D : va_G) (tc : Nat → ClassId) (tb : Nat → Nat) (z0 : Nat) (sz : Nat) (b_x b_mem b_row b_part b_mrk b_sf b_ss b_sr b_h b_r b_in b_out b_k : Nat) (m_on : Int32) (m_hc : Int32) (m_pc : Int32) (m_giv : Int32) (m_tak : Int32) (m_put : Int32) (m_st : Int32) (m_cu : Int32) (m_va : Int32) (m_sp : Int32) (m_un : Int32) (m_kc : Int32) (m_kn : Int32) (m_by : Int32) (m_kd : Int32) (m_tg : Int32) (m_ju : Int32) (m_mem : Nat → Int32) (x0 : Int32) (x1 : Int32) (x2 : Int64) : Met l y_M_poke (wM y_M_poke b_M_poke 6 (some .boolean)) ({ frames := 1, cells := 0, slots := 0, locals := 20 }) (va_Pc [.ref b_x, .int x0, .int x1, .long x2] (Pw D tc tb z0 [(b_x, .inr (9, [.ref b_row, .ref b_part, .ref b_mem, .ref b_mrk, .ref b_sf, .ref b_ss, .ref b_sr, .int m_on, .ref b_h, .int m_hc, .ref b_r, .int m_pc, .ref b_in, .int m_giv, .int m_tak, .ref b_out, .int m_put, .int m_st, .int m_cu, .int m_va, .int m_sp, .int m_un, .ref b_k, .int m_kc, .int m_kn, .int m_by, .int m_kd, .int m_tg, .int m_ju])), (b_mem, .inl (tc 0, 131072, .inl m_mem))] sz)) (va_Qi (fun (r : Int32) (u : (Nat → Int32) × Int32) => (r, u) = (mF_StepMachineModel_poke m_kc m_mem x0 x1 x2)) (Bw D tc (va_A [(b_x, .inr (9, [.ref b_row, .ref b_part, .ref b_mem, .ref b_mrk, .ref b_sf, .ref b_ss, .ref b_sr, .int m_on, .ref b_h, .int m_hc, .ref b_r, .int m_pc, .ref b_in, .int m_giv, .int m_tak, .ref b_out, .int m_put, .int m_st, .int m_cu, .int m_va, .int m_sp, .int m_un, .ref b_k, .int m_kc, .int m_kn, .int m_by, .int m_kd, .int m_tg, .int m_ju])), (b_mem, .inl (tc 0, 131072, .inl m_mem))] sz) (fun u => [(b_x, .inr (9, [.ref b_row, .ref b_part, .ref b_mem, .ref b_mrk, .ref b_sf, .ref b_ss, .ref b_sr, .int m_on, .ref b_h, .int m_hc, .ref b_r, .int m_pc, .ref b_in, .int m_giv, .int m_tak, .ref b_out, .int m_put, .int m_st, .int m_cu, .int m_va, .int m_sp, .int m_un, .ref b_k, .int u.2, .int m_kn, .int m_by, .int m_kd, .int m_tg, .int m_ju])), (b_mem, .inl (tc 0, 131072, .inl u.1))])) (va_A [(b_x, .inr (9, [.ref b_row, .ref b_part, .ref b_mem, .ref b_mrk, .ref b_sf, .ref b_ss, .ref b_sr, .int m_on, .ref b_h, .int m_hc, .ref b_r, .int m_pc, .ref b_in, .int m_giv, .int m_tak, .ref b_out, .int m_put, .int m_st, .int m_cu, .int m_va, .int m_sp, .int m_un, .ref b_k, .int m_kc, .int m_kn, .int m_by, .int m_kd, .int m_tg, .int m_ju])), (b_mem, .inl (tc 0, 131072, .inl m_mem))] sz)) 0 0 (va_A [(b_x, .inr (9, [.ref b_row, .ref b_part, .ref b_mem, .ref b_mrk, .ref b_sf, .ref b_ss, .ref b_sr, .int m_on, .ref b_h, .int m_hc, .ref b_r, .int m_pc, .ref b_in, .int m_giv, .int m_tak, .ref b_out, .int m_put, .int m_st, .int m_cu, .int m_va, .int m_sp, .int m_un, .ref b_k, .int m_kc, .int m_kn, .int m_by, .int m_kd, .int m_tg, .int m_ju])), (b_mem, .inl (tc 0, 131072, .inl m_mem))] sz) := by
  refine Met.ofW (cc := b_M_poke) (maxL := 6) (ret := (some .boolean)) (by decide) rfl ?_
  intro p e s m args below meth c s₁ B hml hv
  obtain ⟨rfl, hsz, hP, hK, hB, hD0, hZ0⟩ := hv
  have hx := B.exec
  have hb := B.bytes
  have hr := B.returns
  have hts : ∀ w ∈ wALL, w.before _ s = true := fun w h => atoms_spec (ws := (wM y_M_poke b_M_poke 6 (some .boolean))) B.pre w (List.mem_cons_of_mem _ h)
  have hown : s.vm.findClass "StepMachineModel" = some m.cls := findClass_of_methodNamed B.named
  have hlocks := B.notSynchronized
  subst hsz
  have hD := hD0.self (sz := s.heap.size)
  generalize hAe : va_A [(b_x, .inr (9, [.ref b_row, .ref b_part, .ref b_mem, .ref b_mrk, .ref b_sf, .ref b_ss, .ref b_sr, .int m_on, .ref b_h, .int m_hc, .ref b_r, .int m_pc, .ref b_in, .int m_giv, .int m_tak, .ref b_out, .int m_put, .int m_st, .int m_cu, .int m_va, .int m_sp, .int m_un, .ref b_k, .int m_kc, .int m_kn, .int m_by, .int m_kd, .int m_tg, .int m_ju])), (b_mem, .inl (tc 0, 131072, .inl m_mem))] s.heap.size = A at hD ⊢
  have hZ : ∀ q : Nat, A q → z0 ≤ q := by rw [← hAe]; exact hZ0
  have hA : ∀ q : Nat, s.heap.size ≤ q → A q := fun q h => by rw [← hAe]; exact Or.inr h
  have hS : va_S A s.heap s.heap [] := va_S.rf
  have hl := lv_entry ([.ref b_x, .int x0, .int x1, .long x2]) (n := 6) (Nat.le_of_ble_eq_true rfl)
  rw [lg_entry_eq]
  generalize (lg_sl ([.ref b_x, .int x0, .int x1, .long x2]) ++ List.replicate (6 - (lg_sl ([.ref b_x, .int x0, .int x1, .long x2])).length) Slot.unset).toArray = ls at hl ⊢
  have hl : lv_has ls 6 [(0, .ref b_x), (1, .int x0), (2, .int x1), (3, .long x2)] := hl
  refine lv_iload_n hx hb d_M_poke_0 rfl (lv_at hl 2 rfl) ?_
  refine lv_iconst (v := 1) hx hb d_M_poke_1 (by decide) ?_
  refine lv_icmp_lt (tgt := 23) hx hb d_M_poke_2 (by decide) (fun c_2 => ?_) (fun c_2 => ?_)
  · skip
    refine lv_iconst (v := 0) hx hb d_M_poke_23 (by decide) ?_
    exact W.zret (v := 0) hx hb hr rfl (fun t ht hW => ⟨⟨_, (m_mem, m_kc), rfl, by rw [mF_StepMachineModel_poke, if_pos c_2], by rw [ht]; exact hP, va_K.moved hW.alike hK, hD⟩, hS.F ht⟩) hS.2.2 d_M_poke_24
  · skip
    refine lv_iload_n hx hb d_M_poke_5 rfl (lv_at hl 2 rfl) ?_
    refine lv_bipush (v := 8) hx hb d_M_poke_6 (by decide) ?_
    refine lv_icmp_gt (tgt := 23) hx hb d_M_poke_8 (by decide) (fun c_8 => ?_) (fun c_8 => ?_)
    · skip
      refine lv_iconst (v := 0) hx hb d_M_poke_23 (by decide) ?_
      exact W.zret (v := 0) hx hb hr rfl (fun t ht hW => ⟨⟨_, (m_mem, m_kc), rfl, by rw [mF_StepMachineModel_poke, if_neg c_2, if_pos c_8], by rw [ht]; exact hP, va_K.moved hW.alike hK, hD⟩, hS.F ht⟩) hS.2.2 d_M_poke_24
    · skip
      refine lv_iload_n hx hb d_M_poke_11 rfl (lv_at hl 1 rfl) ?_
      refine lv_if_lt (tgt := 23) hx hb d_M_poke_12 (by decide) (fun c_12 => ?_) (fun c_12 => ?_)
      · skip
        refine lv_iconst (v := 0) hx hb d_M_poke_23 (by decide) ?_
        exact W.zret (v := 0) hx hb hr rfl (fun t ht hW => ⟨⟨_, (m_mem, m_kc), rfl, by rw [mF_StepMachineModel_poke, if_neg c_2, if_neg c_8, if_pos c_12], by rw [ht]; exact hP, va_K.moved hW.alike hK, hD⟩, hS.F ht⟩) hS.2.2 d_M_poke_24
      · skip
        refine lv_iload_n hx hb d_M_poke_15 rfl (lv_at hl 1 rfl) ?_
        refine lv_ldc (v := 131072) hx hb hown (hts _ a_590) d_M_poke_16 ?_
        refine lv_iload_n hx hb d_M_poke_18 rfl (lv_at hl 2 rfl) ?_
        refine lv_isub hx hb d_M_poke_19 ?_
        refine lv_icmp_le (tgt := 25) hx hb d_M_poke_20 (by decide) (fun c_20 => ?_) (fun c_20 => ?_)
        · skip
          refine lv_iconst (v := 0) hx hb d_M_poke_25 (by decide) ?_
          refine lv_istore (lv' := [(5, .int 0), (0, .ref b_x), (1, .int x0), (2, .int x1), (3, .long x2)]) hx hb d_M_poke_26 hl (by decide) rfl (fun ls hl => ?_)
          have loop_28 : ∀ (n_28 : Nat) (k_28 : Int32) (m_memL : Nat → Int32) (H : Heap) (locs : List Loc) (ls : Array Slot), (0 ≤ k_28.toInt) → (x1.toInt - k_28.toInt).toNat < n_28 → (∀ (H : Heap) (locs : List Loc) (ls : Array Slot), (0 ≤ (mF_StepMachineModel_poke_L28 x0 x1 x2 n_28 k_28 m_memL).1.toInt) → va_P D vwCl [(b_x, .inr (9, [.ref b_row, .ref b_part, .ref b_mem, .ref b_mrk, .ref b_sf, .ref b_ss, .ref b_sr, .int m_on, .ref b_h, .int m_hc, .ref b_r, .int m_pc, .ref b_in, .int m_giv, .int m_tak, .ref b_out, .int m_put, .int m_st, .int m_cu, .int m_va, .int m_sp, .int m_un, .ref b_k, .int m_kc, .int m_kn, .int m_by, .int m_kd, .int m_tg, .int m_ju])), (b_mem, .inl (tc 0, 131072, .inl ((mF_StepMachineModel_poke_L28 x0 x1 x2 n_28 k_28 m_memL).2)))] H → va_D A [(b_x, .inr (9, [.ref b_row, .ref b_part, .ref b_mem, .ref b_mrk, .ref b_sf, .ref b_ss, .ref b_sr, .int m_on, .ref b_h, .int m_hc, .ref b_r, .int m_pc, .ref b_in, .int m_giv, .int m_tak, .ref b_out, .int m_put, .int m_st, .int m_cu, .int m_va, .int m_sp, .int m_un, .ref b_k, .int m_kc, .int m_kn, .int m_by, .int m_kd, .int m_tg, .int m_ju])), (b_mem, .inl (tc 0, 131072, .inl ((mF_StepMachineModel_poke_L28 x0 x1 x2 n_28 k_28 m_memL).2)))] → va_S A s.heap H locs → lv_has ls 6 [(5, .int ((mF_StepMachineModel_poke_L28 x0 x1 x2 n_28 k_28 m_memL).1)), (0, .ref b_x), (1, .int x0), (2, .int x1), (3, .long x2)] → W p l e (headSpec (wM y_M_poke b_M_poke 6 (some .boolean)) ({ frames := 1, cells := 0, slots := 0, locals := 20 })).room s m ([.ref b_x, .int x0, .int x1, .long x2]).toArray below meth c H locs 0 0 (MQ below (va_Qi (fun (r : Int32) (u : (Nat → Int32) × Int32) => (r, u) = (mF_StepMachineModel_poke m_kc m_mem x0 x1 x2)) (Bw D tc A (fun u => [(b_x, .inr (9, [.ref b_row, .ref b_part, .ref b_mem, .ref b_mrk, .ref b_sf, .ref b_ss, .ref b_sr, .int m_on, .ref b_h, .int m_hc, .ref b_r, .int m_pc, .ref b_in, .int m_giv, .int m_tak, .ref b_out, .int m_put, .int m_st, .int m_cu, .int m_va, .int m_sp, .int m_un, .ref b_k, .int u.2, .int m_kn, .int m_by, .int m_kd, .int m_tg, .int m_ju])), (b_mem, .inl (tc 0, 131072, .inl u.1))])) A) ([.ref b_x, .int x0, .int x1, .long x2]).toArray s 0 0 A) (F0 m 64 ls [])) → va_P D vwCl [(b_x, .inr (9, [.ref b_row, .ref b_part, .ref b_mem, .ref b_mrk, .ref b_sf, .ref b_ss, .ref b_sr, .int m_on, .ref b_h, .int m_hc, .ref b_r, .int m_pc, .ref b_in, .int m_giv, .int m_tak, .ref b_out, .int m_put, .int m_st, .int m_cu, .int m_va, .int m_sp, .int m_un, .ref b_k, .int m_kc, .int m_kn, .int m_by, .int m_kd, .int m_tg, .int m_ju])), (b_mem, .inl (tc 0, 131072, .inl m_memL))] H → va_D A [(b_x, .inr (9, [.ref b_row, .ref b_part, .ref b_mem, .ref b_mrk, .ref b_sf, .ref b_ss, .ref b_sr, .int m_on, .ref b_h, .int m_hc, .ref b_r, .int m_pc, .ref b_in, .int m_giv, .int m_tak, .ref b_out, .int m_put, .int m_st, .int m_cu, .int m_va, .int m_sp, .int m_un, .ref b_k, .int m_kc, .int m_kn, .int m_by, .int m_kd, .int m_tg, .int m_ju])), (b_mem, .inl (tc 0, 131072, .inl m_memL))] → va_S A s.heap H locs → lv_has ls 6 [(5, .int k_28), (0, .ref b_x), (1, .int x0), (2, .int x1), (3, .long x2)] → W p l e (headSpec (wM y_M_poke b_M_poke 6 (some .boolean)) ({ frames := 1, cells := 0, slots := 0, locals := 20 })).room s m ([.ref b_x, .int x0, .int x1, .long x2]).toArray below meth c H locs 0 0 (MQ below (va_Qi (fun (r : Int32) (u : (Nat → Int32) × Int32) => (r, u) = (mF_StepMachineModel_poke m_kc m_mem x0 x1 x2)) (Bw D tc A (fun u => [(b_x, .inr (9, [.ref b_row, .ref b_part, .ref b_mem, .ref b_mrk, .ref b_sf, .ref b_ss, .ref b_sr, .int m_on, .ref b_h, .int m_hc, .ref b_r, .int m_pc, .ref b_in, .int m_giv, .int m_tak, .ref b_out, .int m_put, .int m_st, .int m_cu, .int m_va, .int m_sp, .int m_un, .ref b_k, .int u.2, .int m_kn, .int m_by, .int m_kd, .int m_tg, .int m_ju])), (b_mem, .inl (tc 0, 131072, .inl u.1))])) A) ([.ref b_x, .int x0, .int x1, .long x2]).toArray s 0 0 A) (F0 m 28 ls []) := by
            intro n_28
            induction n_28 with
            | zero =>
              intro k_28 m_memL H locs ls hq hm
              exact absurd hm (Nat.not_lt_zero _)
            | succ n_28 ih_28 =>
              intro k_28 m_memL H locs ls hq hm_28 hX_28 hP hD hS hl
              refine lv_iload hx hb d_M_poke_28 (lv_at hl 0 rfl) ?_
              refine lv_iload_n hx hb d_M_poke_30 rfl (lv_at hl 3 rfl) ?_
              refine lv_icmp_ge (tgt := 64) hx hb d_M_poke_31 (by decide) (fun c_31 => ?_) (fun c_31 => ?_)
              · skip
                rw [mF_StepMachineModel_poke_L28, if_pos c_31] at hX_28
                exact hX_28 _ _ ls hq hP hD hS (lv_sub hl [0, 1, 2, 3, 4] rfl)
              · skip
                refine lv_aload_n hx hb d_M_poke_34 rfl (lv_at hl 1 rfl) ?_
                refine va_get (D := D) (ci := 9) (v := .ref b_mem) (C := "StepMachineModel") (T := TX9) (N := 29) hx hb hts inU_9 hown hK hP 0 rfl rfl 2 (by decide) (hts _ a_635) (fun _ h9 => h9) rfl d_M_poke_35 ?_
                refine lv_iload_n hx hb d_M_poke_38 rfl (lv_at hl 2 rfl) ?_
                refine lv_iload hx hb d_M_poke_39 (lv_at hl 0 rfl) ?_
                refine lv_iadd hx hb d_M_poke_41 ?_
                refine lv_lload_n hx hb d_M_poke_42 rfl (lv_at hl 4 rfl) ?_
                refine lv_bipush (v := 56) hx hb d_M_poke_43 (by decide) ?_
                refine lv_bipush (v := 8) hx hb d_M_poke_45 (by decide) ?_
                refine lv_iload hx hb d_M_poke_47 (lv_at hl 0 rfl) ?_
                refine lv_imul hx hb d_M_poke_49 ?_
                refine lv_isub hx hb d_M_poke_50 ?_
                refine lv_lshr (v := (j_lshr x2 (56 - (8 * k_28)))) hx hb d_M_poke_51 rfl ?_
                refine lv_ldc2 (v := 255) hx hb hown (hts _ a_712) d_M_poke_52 ?_
                refine lv_land hx hb d_M_poke_55 ?_
                refine lv_l2i (v := ((j_lshr x2 (56 - (8 * k_28))) &&& 255).toInt32) hx hb d_M_poke_56 rfl ?_
                refine va_iast hx hb hK hP hD hS 1 0 rfl rfl (in_poke c_2 c_8 c_12 c_20 hq c_31) d_M_poke_57 (fun H locs hP hD hS => ?_)
                have hP : va_P D vwCl [(b_x, .inr (9, [.ref b_row, .ref b_part, .ref b_mem, .ref b_mrk, .ref b_sf, .ref b_ss, .ref b_sr, .int m_on, .ref b_h, .int m_hc, .ref b_r, .int m_pc, .ref b_in, .int m_giv, .int m_tak, .ref b_out, .int m_put, .int m_st, .int m_cu, .int m_va, .int m_sp, .int m_un, .ref b_k, .int m_kc, .int m_kn, .int m_by, .int m_kd, .int m_tg, .int m_ju])), (b_mem, .inl (tc 0, 131072, .inl (upd m_memL (x0 + k_28).toNatClampNeg (((j_lshr x2 (56 - (8 * k_28))) &&& 255).toInt32))))] H := hP
                have hD : va_D A [(b_x, .inr (9, [.ref b_row, .ref b_part, .ref b_mem, .ref b_mrk, .ref b_sf, .ref b_ss, .ref b_sr, .int m_on, .ref b_h, .int m_hc, .ref b_r, .int m_pc, .ref b_in, .int m_giv, .int m_tak, .ref b_out, .int m_put, .int m_st, .int m_cu, .int m_va, .int m_sp, .int m_un, .ref b_k, .int m_kc, .int m_kn, .int m_by, .int m_kd, .int m_tg, .int m_ju])), (b_mem, .inl (tc 0, 131072, .inl (upd m_memL (x0 + k_28).toNatClampNeg (((j_lshr x2 (56 - (8 * k_28))) &&& 255).toInt32))))] := hD
                refine lv_iinc (v := (k_28 + 1)) (lv' := [(5, .int (k_28 + 1)), (0, .ref b_x), (1, .int x0), (2, .int x1), (3, .long x2)]) hx hb d_M_poke_58 hl (k := 0) rfl rfl (by decide) rfl (fun ls hl => ?_)
                refine lv_goto (tgt := 28) hx hb d_M_poke_61 (by decide) ?_
                exact ih_28 (k_28 + 1) (upd m_memL (x0 + k_28).toNatClampNeg (((j_lshr x2 (56 - (8 * k_28))) &&& 255).toInt32)) _ _ ls (st_nn c_31 hq) (ms_step c_31 hm_28) (by have h := hX_28; rw [mF_StepMachineModel_poke_L28, if_neg c_31] at h; exact h) hP hD hS (lv_sub hl [0, 1, 2, 3, 4] rfl)
          obtain ⟨q_28, e_28⟩ : ∃ z, z = (mF_StepMachineModel_poke_L28 x0 x1 x2 ((x1.toInt - (0 : Int32).toInt).toNat + 1) (0 : Int32) m_mem) := ⟨_, rfl⟩
          refine loop_28 ((x1.toInt - (0 : Int32).toInt).toNat + 1) (0 : Int32) m_mem _ _ ls (by decide) (Nat.lt_succ_self _) ?_ hP hD hS (lv_sub hl [0, 1, 2, 3, 4] rfl)
          rw [← e_28]
          intro H locs ls hq hP hD hS hl
          have hP : va_P D vwCl [(b_x, .inr (9, [.ref b_row, .ref b_part, .ref b_mem, .ref b_mrk, .ref b_sf, .ref b_ss, .ref b_sr, .int m_on, .ref b_h, .int m_hc, .ref b_r, .int m_pc, .ref b_in, .int m_giv, .int m_tak, .ref b_out, .int m_put, .int m_st, .int m_cu, .int m_va, .int m_sp, .int m_un, .ref b_k, .int m_kc, .int m_kn, .int m_by, .int m_kd, .int m_tg, .int m_ju])), (b_mem, .inl (tc 0, 131072, .inl q_28.2))] H := hP
          have hD : va_D A [(b_x, .inr (9, [.ref b_row, .ref b_part, .ref b_mem, .ref b_mrk, .ref b_sf, .ref b_ss, .ref b_sr, .int m_on, .ref b_h, .int m_hc, .ref b_r, .int m_pc, .ref b_in, .int m_giv, .int m_tak, .ref b_out, .int m_put, .int m_st, .int m_cu, .int m_va, .int m_sp, .int m_un, .ref b_k, .int m_kc, .int m_kn, .int m_by, .int m_kd, .int m_tg, .int m_ju])), (b_mem, .inl (tc 0, 131072, .inl q_28.2))] := hD
          have hl : lv_has ls 6 [(5, .int q_28.1), (0, .ref b_x), (1, .int x0), (2, .int x1), (3, .long x2)] := hl
          refine lv_aload_n hx hb d_M_poke_64 rfl (lv_at hl 1 rfl) ?_
          obtain ⟨q_65, e_65⟩ : ∃ z, z = mF_StepMachineModel_forget := ⟨_, rfl⟩
          refine wVv (As := []) (rest := []) e_65 ⟨hx, hb, hml, hown, hts⟩ (mc_StepMachineModel_forget l D tc tb z0 _ b_x b_row b_part b_mem b_mrk b_sf b_ss b_sr b_h b_r b_in b_out b_k m_on m_hc m_pc m_giv m_tak m_put m_st m_cu m_va m_sp m_un m_kc m_kn m_by m_kd m_tg m_ju) (cwV 0 hts (goodV a_697 a_698 a_917 a_10 a_699) rfl rfl rfl hv_M_forget ⟨Nat.le_of_ble_eq_true rfl, Nat.le_of_ble_eq_true rfl⟩) hP hD hS hA hZ hK hB [0] rfl (by decide) (fun _ => rfl) rfl rfl rfl hl.1 rfl (Nat.le_of_ble_eq_true rfl) d_M_poke_65 ⟨Nat.zero_le _, Nat.zero_le _⟩ (fun H locs hP hD hS => ?_)
          have hP : va_P D vwCl [(b_x, .inr (9, [.ref b_row, .ref b_part, .ref b_mem, .ref b_mrk, .ref b_sf, .ref b_ss, .ref b_sr, .int m_on, .ref b_h, .int m_hc, .ref b_r, .int m_pc, .ref b_in, .int m_giv, .int m_tak, .ref b_out, .int m_put, .int m_st, .int m_cu, .int m_va, .int m_sp, .int m_un, .ref b_k, .int q_65, .int m_kn, .int m_by, .int m_kd, .int m_tg, .int m_ju])), (b_mem, .inl (tc 0, 131072, .inl q_28.2))] H := hP
          have hD : va_D A [(b_x, .inr (9, [.ref b_row, .ref b_part, .ref b_mem, .ref b_mrk, .ref b_sf, .ref b_ss, .ref b_sr, .int m_on, .ref b_h, .int m_hc, .ref b_r, .int m_pc, .ref b_in, .int m_giv, .int m_tak, .ref b_out, .int m_put, .int m_st, .int m_cu, .int m_va, .int m_sp, .int m_un, .ref b_k, .int q_65, .int m_kn, .int m_by, .int m_kd, .int m_tg, .int m_ju])), (b_mem, .inl (tc 0, 131072, .inl q_28.2))] := hD
          refine lv_iconst (v := 1) hx hb d_M_poke_68 (by decide) ?_
          exact W.zret (v := 1) hx hb hr rfl (fun t ht hW => ⟨⟨_, (q_28.2, q_65), rfl, by rw [mF_StepMachineModel_poke, if_neg c_2, if_neg c_8, if_neg c_12, if_pos c_20, ← e_28, mF_StepMachineModel_poke_1, ← e_65, mF_StepMachineModel_poke_2], by rw [ht]; exact hP, va_K.moved hW.alike hK, hD⟩, hS.F ht⟩) hS.2.2 d_M_poke_69
        · skip
          refine lv_iconst (v := 0) hx hb d_M_poke_23 (by decide) ?_
          exact W.zret (v := 0) hx hb hr rfl (fun t ht hW => ⟨⟨_, (m_mem, m_kc), rfl, by rw [mF_StepMachineModel_poke, if_neg c_2, if_neg c_8, if_neg c_12, if_neg c_20], by rw [ht]; exact hP, va_K.moved hW.alike hK, hD⟩, hS.F ht⟩) hS.2.2 d_M_poke_24
def mF_StepMachineModel_peek (m_mem : Nat → Int32) (x0 : Int32) : Int32 := (if x0 < 0 then (-1) else (if 131072 ≤ x0 then (-1) else (m_mem x0.toNatClampNeg)))
set_option maxHeartbeats 4000000 in
set_option maxRecDepth 100000 in
theorem mc_StepMachineModel_peek (l : Launch) (D : va_G) (tc : Nat → ClassId) (tb : Nat → Nat) (z0 : Nat) (b_x b_mem b_row b_part b_mrk b_sf b_ss b_sr b_h b_r b_in b_out b_k : Nat) (m_on : Int32) (m_hc : Int32) (m_pc : Int32) (m_giv : Int32) (m_tak : Int32) (m_put : Int32) (m_st : Int32) (m_cu : Int32) (m_va : Int32) (m_sp : Int32) (m_un : Int32) (m_kc : Int32) (m_kn : Int32) (m_by : Int32) (m_kd : Int32) (m_tg : Int32) (m_ju : Int32) (m_mem : Nat → Int32) (x0 : Int32) : Met l y_M_peek (wM y_M_peek b_M_peek 2 (some .int)) ({ frames := 0, cells := 0, slots := 0, locals := 0 }) (va_Pc [.ref b_x, .int x0] (Pr D tc tb z0 [(b_x, .inr (9, [.ref b_row, .ref b_part, .ref b_mem, .ref b_mrk, .ref b_sf, .ref b_ss, .ref b_sr, .int m_on, .ref b_h, .int m_hc, .ref b_r, .int m_pc, .ref b_in, .int m_giv, .int m_tak, .ref b_out, .int m_put, .int m_st, .int m_cu, .int m_va, .int m_sp, .int m_un, .ref b_k, .int m_kc, .int m_kn, .int m_by, .int m_kd, .int m_tg, .int m_ju])), (b_mem, .inl (tc 0, 131072, .inl m_mem))])) (vp_Si (fun r => r = (mF_StepMachineModel_peek m_mem x0))) 0 0 (fun _ => False) := by
  refine Met.ofW (cc := b_M_peek) (maxL := 2) (ret := (some .int)) (by decide) rfl ?_
  intro p e s m args below meth c s₁ B hml hv
  obtain ⟨rfl, hP, hK, hB⟩ := hv
  have hx := B.exec
  have hb := B.bytes
  have hr := B.returns
  have hts : ∀ w ∈ wALL, w.before _ s = true := fun w h => atoms_spec (ws := (wM y_M_peek b_M_peek 2 (some .int))) B.pre w (List.mem_cons_of_mem _ h)
  have hown : s.vm.findClass "StepMachineModel" = some m.cls := findClass_of_methodNamed B.named
  have hlocks := B.notSynchronized
  have hl := lv_entry ([.ref b_x, .int x0]) (n := 2) (Nat.le_of_ble_eq_true rfl)
  rw [lg_entry_eq]
  generalize (lg_sl ([.ref b_x, .int x0]) ++ List.replicate (2 - (lg_sl ([.ref b_x, .int x0])).length) Slot.unset).toArray = ls at hl ⊢
  have hl : lv_has ls 2 [(0, .ref b_x), (1, .int x0)] := hl
  refine lv_iload_n hx hb d_M_peek_0 rfl (lv_at hl 1 rfl) ?_
  refine lv_if_lt (tgt := 19) hx hb d_M_peek_1 (by decide) (fun c_1 => ?_) (fun c_1 => ?_)
  · skip
    refine lv_iconst (v := (-1)) hx hb d_M_peek_19 (by decide) ?_
    exact W.iret (v := (-1)) hx hb hr (fun t ht hW => ⟨_, rfl, by rw [mF_StepMachineModel_peek, if_pos c_1], ht⟩) (fun q h => by cases h) d_M_peek_20
  · skip
    refine lv_iload_n hx hb d_M_peek_4 rfl (lv_at hl 1 rfl) ?_
    refine lv_ldc (v := 131072) hx hb hown (hts _ a_590) d_M_peek_5 ?_
    refine lv_icmp_ge (tgt := 19) hx hb d_M_peek_7 (by decide) (fun c_7 => ?_) (fun c_7 => ?_)
    · skip
      refine lv_iconst (v := (-1)) hx hb d_M_peek_19 (by decide) ?_
      exact W.iret (v := (-1)) hx hb hr (fun t ht hW => ⟨_, rfl, by rw [mF_StepMachineModel_peek, if_neg c_1, if_pos c_7], ht⟩) (fun q h => by cases h) d_M_peek_20
    · skip
      refine lv_aload_n hx hb d_M_peek_10 rfl (lv_at hl 0 rfl) ?_
      refine va_get (D := D) (ci := 9) (v := .ref b_mem) (C := "StepMachineModel") (T := TX9) (N := 29) hx hb hts inU_9 hown hK hP 0 rfl rfl 2 (by decide) (hts _ a_635) (fun _ h9 => h9) rfl d_M_peek_11 ?_
      refine lv_iload_n hx hb d_M_peek_14 rfl (lv_at hl 1 rfl) ?_
      refine va_iald hx hb hK hP 1 0 rfl rfl (in_mem c_1 c_7) d_M_peek_15 ?_
      refine lv_goto (tgt := 20) hx hb d_M_peek_16 (by decide) ?_
      exact W.iret (v := (m_mem x0.toNatClampNeg)) hx hb hr (fun t ht hW => ⟨_, rfl, by rw [mF_StepMachineModel_peek, if_neg c_1, if_neg c_7], ht⟩) (fun q h => by cases h) d_M_peek_20
def mF_StepMachineModel_set_5 (m_st : Int32) (m_cu : Int32) (m_reg : Nat → Int32) (x1 : Int32) (q_67 : Int32) : Int32 × (Nat → Int32) × Int32 × Int32 × Int32 × Int32 := (1, m_reg, x1, m_st, m_cu, q_67)
def mF_StepMachineModel_set_2 (m_pc : Int32) (m_reg : Nat → Int32) (q_67 : Int32) : Int32 × (Nat → Int32) × Int32 × Int32 × Int32 × Int32 := (1, m_reg, m_pc, 0, 0, q_67)
def mF_StepMachineModel_set_1 (m_pc : Int32) (m_st : Int32) (m_cu : Int32) (m_reg : Nat → Int32) (q_67 : Int32) : Int32 × (Nat → Int32) × Int32 × Int32 × Int32 × Int32 := (1, m_reg, m_pc, m_st, m_cu, q_67)
def mF_StepMachineModel_set_4 (m_pc : Int32) (m_reg : Nat → Int32) (x0 : Int32) (x1 : Int32) (q_67 : Int32) : Int32 × (Nat → Int32) × Int32 × Int32 × Int32 × Int32 := (1, (upd m_reg x0.toNatClampNeg x1), m_pc, 0, 0, q_67)
def mF_StepMachineModel_set_3 (m_pc : Int32) (m_st : Int32) (m_cu : Int32) (m_reg : Nat → Int32) (x0 : Int32) (x1 : Int32) (q_67 : Int32) : Int32 × (Nat → Int32) × Int32 × Int32 × Int32 × Int32 := (1, (upd m_reg x0.toNatClampNeg x1), m_pc, m_st, m_cu, q_67)
def mF_StepMachineModel_set (m_pc : Int32) (m_st : Int32) (m_cu : Int32) (m_kc : Int32) (m_reg : Nat → Int32) (x0 : Int32) (x1 : Int32) : Int32 × (Nat → Int32) × Int32 × Int32 × Int32 × Int32 := (if x0 < 1 then (0, m_reg, m_pc, m_st, m_cu, m_kc) else (if 33 < x0 then (0, m_reg, m_pc, m_st, m_cu, m_kc) else (if x0 = 32 then (if (x1 &&& 1) = 1 then (0, m_reg, m_pc, m_st, m_cu, m_kc) else (mF_StepMachineModel_set_5 m_st m_cu m_reg x1 mF_StepMachineModel_forget)) else (if 32 ≤ x0 then (if x0 = 33 then (mF_StepMachineModel_set_2 m_pc m_reg mF_StepMachineModel_forget) else (mF_StepMachineModel_set_1 m_pc m_st m_cu m_reg mF_StepMachineModel_forget)) else (if x0 = 33 then (mF_StepMachineModel_set_4 m_pc m_reg x0 x1 mF_StepMachineModel_forget) else (mF_StepMachineModel_set_3 m_pc m_st m_cu m_reg x0 x1 mF_StepMachineModel_forget))))))
set_option maxHeartbeats 4000000 in
set_option maxRecDepth 100000 in
theorem mc_StepMachineModel_set (l : Launch) (D : va_G) (tc : Nat → ClassId) (tb : Nat → Nat) (z0 : Nat) (sz : Nat) (b_x b_r b_row b_part b_mem b_mrk b_sf b_ss b_sr b_h b_in b_out b_k : Nat) (m_on : Int32) (m_hc : Int32) (m_pc : Int32) (m_giv : Int32) (m_tak : Int32) (m_put : Int32) (m_st : Int32) (m_cu : Int32) (m_va : Int32) (m_sp : Int32) (m_un : Int32) (m_kc : Int32) (m_kn : Int32) (m_by : Int32) (m_kd : Int32) (m_tg : Int32) (m_ju : Int32) (m_reg : Nat → Int32) (x0 : Int32) (x1 : Int32) : Met l y_M_set (wM y_M_set b_M_set 3 (some .boolean)) ({ frames := 1, cells := 0, slots := 0, locals := 20 }) (va_Pc [.ref b_x, .int x0, .int x1] (Pw D tc tb z0 [(b_x, .inr (9, [.ref b_row, .ref b_part, .ref b_mem, .ref b_mrk, .ref b_sf, .ref b_ss, .ref b_sr, .int m_on, .ref b_h, .int m_hc, .ref b_r, .int m_pc, .ref b_in, .int m_giv, .int m_tak, .ref b_out, .int m_put, .int m_st, .int m_cu, .int m_va, .int m_sp, .int m_un, .ref b_k, .int m_kc, .int m_kn, .int m_by, .int m_kd, .int m_tg, .int m_ju])), (b_r, .inl (tc 0, 32, .inl m_reg))] sz)) (va_Qi (fun (r : Int32) (u : (Nat → Int32) × Int32 × Int32 × Int32 × Int32) => (r, u) = (mF_StepMachineModel_set m_pc m_st m_cu m_kc m_reg x0 x1)) (Bw D tc (va_A [(b_x, .inr (9, [.ref b_row, .ref b_part, .ref b_mem, .ref b_mrk, .ref b_sf, .ref b_ss, .ref b_sr, .int m_on, .ref b_h, .int m_hc, .ref b_r, .int m_pc, .ref b_in, .int m_giv, .int m_tak, .ref b_out, .int m_put, .int m_st, .int m_cu, .int m_va, .int m_sp, .int m_un, .ref b_k, .int m_kc, .int m_kn, .int m_by, .int m_kd, .int m_tg, .int m_ju])), (b_r, .inl (tc 0, 32, .inl m_reg))] sz) (fun u => [(b_x, .inr (9, [.ref b_row, .ref b_part, .ref b_mem, .ref b_mrk, .ref b_sf, .ref b_ss, .ref b_sr, .int m_on, .ref b_h, .int m_hc, .ref b_r, .int u.2.1, .ref b_in, .int m_giv, .int m_tak, .ref b_out, .int m_put, .int u.2.2.1, .int u.2.2.2.1, .int m_va, .int m_sp, .int m_un, .ref b_k, .int u.2.2.2.2, .int m_kn, .int m_by, .int m_kd, .int m_tg, .int m_ju])), (b_r, .inl (tc 0, 32, .inl u.1))])) (va_A [(b_x, .inr (9, [.ref b_row, .ref b_part, .ref b_mem, .ref b_mrk, .ref b_sf, .ref b_ss, .ref b_sr, .int m_on, .ref b_h, .int m_hc, .ref b_r, .int m_pc, .ref b_in, .int m_giv, .int m_tak, .ref b_out, .int m_put, .int m_st, .int m_cu, .int m_va, .int m_sp, .int m_un, .ref b_k, .int m_kc, .int m_kn, .int m_by, .int m_kd, .int m_tg, .int m_ju])), (b_r, .inl (tc 0, 32, .inl m_reg))] sz)) 0 0 (va_A [(b_x, .inr (9, [.ref b_row, .ref b_part, .ref b_mem, .ref b_mrk, .ref b_sf, .ref b_ss, .ref b_sr, .int m_on, .ref b_h, .int m_hc, .ref b_r, .int m_pc, .ref b_in, .int m_giv, .int m_tak, .ref b_out, .int m_put, .int m_st, .int m_cu, .int m_va, .int m_sp, .int m_un, .ref b_k, .int m_kc, .int m_kn, .int m_by, .int m_kd, .int m_tg, .int m_ju])), (b_r, .inl (tc 0, 32, .inl m_reg))] sz) := by
  refine Met.ofW (cc := b_M_set) (maxL := 3) (ret := (some .boolean)) (by decide) rfl ?_
  intro p e s m args below meth c s₁ B hml hv
  obtain ⟨rfl, hsz, hP, hK, hB, hD0, hZ0⟩ := hv
  have hx := B.exec
  have hb := B.bytes
  have hr := B.returns
  have hts : ∀ w ∈ wALL, w.before _ s = true := fun w h => atoms_spec (ws := (wM y_M_set b_M_set 3 (some .boolean))) B.pre w (List.mem_cons_of_mem _ h)
  have hown : s.vm.findClass "StepMachineModel" = some m.cls := findClass_of_methodNamed B.named
  have hlocks := B.notSynchronized
  subst hsz
  have hD := hD0.self (sz := s.heap.size)
  generalize hAe : va_A [(b_x, .inr (9, [.ref b_row, .ref b_part, .ref b_mem, .ref b_mrk, .ref b_sf, .ref b_ss, .ref b_sr, .int m_on, .ref b_h, .int m_hc, .ref b_r, .int m_pc, .ref b_in, .int m_giv, .int m_tak, .ref b_out, .int m_put, .int m_st, .int m_cu, .int m_va, .int m_sp, .int m_un, .ref b_k, .int m_kc, .int m_kn, .int m_by, .int m_kd, .int m_tg, .int m_ju])), (b_r, .inl (tc 0, 32, .inl m_reg))] s.heap.size = A at hD ⊢
  have hZ : ∀ q : Nat, A q → z0 ≤ q := by rw [← hAe]; exact hZ0
  have hA : ∀ q : Nat, s.heap.size ≤ q → A q := fun q h => by rw [← hAe]; exact Or.inr h
  have hS : va_S A s.heap s.heap [] := va_S.rf
  have hl := lv_entry ([.ref b_x, .int x0, .int x1]) (n := 3) (Nat.le_of_ble_eq_true rfl)
  rw [lg_entry_eq]
  generalize (lg_sl ([.ref b_x, .int x0, .int x1]) ++ List.replicate (3 - (lg_sl ([.ref b_x, .int x0, .int x1])).length) Slot.unset).toArray = ls at hl ⊢
  have hl : lv_has ls 3 [(0, .ref b_x), (1, .int x0), (2, .int x1)] := hl
  refine lv_iload_n hx hb d_M_set_0 rfl (lv_at hl 1 rfl) ?_
  refine lv_iconst (v := 1) hx hb d_M_set_1 (by decide) ?_
  refine lv_icmp_lt (tgt := 24) hx hb d_M_set_2 (by decide) (fun c_2 => ?_) (fun c_2 => ?_)
  · skip
    refine lv_iconst (v := 0) hx hb d_M_set_24 (by decide) ?_
    exact W.zret (v := 0) hx hb hr rfl (fun t ht hW => ⟨⟨_, (m_reg, m_pc, m_st, m_cu, m_kc), rfl, by rw [mF_StepMachineModel_set, if_pos c_2], by rw [ht]; exact hP, va_K.moved hW.alike hK, hD⟩, hS.F ht⟩) hS.2.2 d_M_set_25
  · skip
    refine lv_iload_n hx hb d_M_set_5 rfl (lv_at hl 1 rfl) ?_
    refine lv_bipush (v := 33) hx hb d_M_set_6 (by decide) ?_
    refine lv_icmp_gt (tgt := 24) hx hb d_M_set_8 (by decide) (fun c_8 => ?_) (fun c_8 => ?_)
    · skip
      refine lv_iconst (v := 0) hx hb d_M_set_24 (by decide) ?_
      exact W.zret (v := 0) hx hb hr rfl (fun t ht hW => ⟨⟨_, (m_reg, m_pc, m_st, m_cu, m_kc), rfl, by rw [mF_StepMachineModel_set, if_neg c_2, if_pos c_8], by rw [ht]; exact hP, va_K.moved hW.alike hK, hD⟩, hS.F ht⟩) hS.2.2 d_M_set_25
    · skip
      refine lv_iload_n hx hb d_M_set_11 rfl (lv_at hl 1 rfl) ?_
      refine lv_bipush (v := 32) hx hb d_M_set_12 (by decide) ?_
      refine lv_icmp_ne (tgt := 26) hx hb d_M_set_14 (by decide) (fun c_14 => ?_) (fun c_14 => ?_)
      · skip
        refine lv_iload_n hx hb d_M_set_26 rfl (lv_at hl 1 rfl) ?_
        refine lv_bipush (v := 32) hx hb d_M_set_27 (by decide) ?_
        refine lv_icmp_ge (tgt := 39) hx hb d_M_set_29 (by decide) (fun c_29 => ?_) (fun c_29 => ?_)
        · skip
          refine lv_iload_n hx hb d_M_set_39 rfl (lv_at hl 1 rfl) ?_
          refine lv_bipush (v := 32) hx hb d_M_set_40 (by decide) ?_
          refine lv_icmp_ne (tgt := 50) hx hb d_M_set_42 (by decide) (fun c_42 => ?_) (fun c_42 => absurd c_42 c_14)
          refine lv_iload_n hx hb d_M_set_50 rfl (lv_at hl 1 rfl) ?_
          refine lv_bipush (v := 33) hx hb d_M_set_51 (by decide) ?_
          refine lv_icmp_ne (tgt := 66) hx hb d_M_set_53 (by decide) (fun c_53 => ?_) (fun c_53 => ?_)
          · skip
            refine lv_aload_n hx hb d_M_set_66 rfl (lv_at hl 0 rfl) ?_
            obtain ⟨q_67, e_67⟩ : ∃ z, z = mF_StepMachineModel_forget := ⟨_, rfl⟩
            refine wVv (As := []) (rest := []) e_67 ⟨hx, hb, hml, hown, hts⟩ (mc_StepMachineModel_forget l D tc tb z0 _ b_x b_row b_part b_mem b_mrk b_sf b_ss b_sr b_h b_r b_in b_out b_k m_on m_hc m_pc m_giv m_tak m_put m_st m_cu m_va m_sp m_un m_kc m_kn m_by m_kd m_tg m_ju) (cwV 0 hts (goodV a_697 a_698 a_917 a_10 a_699) rfl rfl rfl hv_M_forget ⟨Nat.le_of_ble_eq_true rfl, Nat.le_of_ble_eq_true rfl⟩) hP hD hS hA hZ hK hB [0] rfl (by decide) (fun _ => rfl) rfl rfl rfl hl.1 rfl (Nat.le_of_ble_eq_true rfl) d_M_set_67 ⟨Nat.zero_le _, Nat.zero_le _⟩ (fun H locs hP hD hS => ?_)
            have hP : va_P D vwCl [(b_x, .inr (9, [.ref b_row, .ref b_part, .ref b_mem, .ref b_mrk, .ref b_sf, .ref b_ss, .ref b_sr, .int m_on, .ref b_h, .int m_hc, .ref b_r, .int m_pc, .ref b_in, .int m_giv, .int m_tak, .ref b_out, .int m_put, .int m_st, .int m_cu, .int m_va, .int m_sp, .int m_un, .ref b_k, .int q_67, .int m_kn, .int m_by, .int m_kd, .int m_tg, .int m_ju])), (b_r, .inl (tc 0, 32, .inl m_reg))] H := hP
            have hD : va_D A [(b_x, .inr (9, [.ref b_row, .ref b_part, .ref b_mem, .ref b_mrk, .ref b_sf, .ref b_ss, .ref b_sr, .int m_on, .ref b_h, .int m_hc, .ref b_r, .int m_pc, .ref b_in, .int m_giv, .int m_tak, .ref b_out, .int m_put, .int m_st, .int m_cu, .int m_va, .int m_sp, .int m_un, .ref b_k, .int q_67, .int m_kn, .int m_by, .int m_kd, .int m_tg, .int m_ju])), (b_r, .inl (tc 0, 32, .inl m_reg))] := hD
            refine lv_iconst (v := 1) hx hb d_M_set_70 (by decide) ?_
            exact W.zret (v := 1) hx hb hr rfl (fun t ht hW => ⟨⟨_, (m_reg, m_pc, m_st, m_cu, q_67), rfl, by rw [mF_StepMachineModel_set, if_neg c_2, if_neg c_8, if_neg c_14, if_pos c_29, if_neg c_53, ← e_67, mF_StepMachineModel_set_1], by rw [ht]; exact hP, va_K.moved hW.alike hK, hD⟩, hS.F ht⟩) hS.2.2 d_M_set_71
          · skip
            refine lv_aload_n hx hb d_M_set_56 rfl (lv_at hl 0 rfl) ?_
            refine lv_iconst (v := 0) hx hb d_M_set_57 (by decide) ?_
            refine va_put (D := D) (ci := 9) (v := .int 0) (ty := .int) (C := "StepMachineModel") (T := TX9) (N := 29) hx hb hts inU_9 tyX9 tyX9_ok nmX9 hown hK hP hD hS 0 rfl rfl 17 (by decide) (hts _ a_650) (fun _ h9 => h9) rfl (by decide +kernel) rfl rfl (Nat.le_of_ble_eq_true rfl) d_M_set_58 (fun H locs hP hD hS => ?_)
            have hP : va_P D vwCl [(b_x, .inr (9, [.ref b_row, .ref b_part, .ref b_mem, .ref b_mrk, .ref b_sf, .ref b_ss, .ref b_sr, .int m_on, .ref b_h, .int m_hc, .ref b_r, .int m_pc, .ref b_in, .int m_giv, .int m_tak, .ref b_out, .int m_put, .int 0, .int m_cu, .int m_va, .int m_sp, .int m_un, .ref b_k, .int m_kc, .int m_kn, .int m_by, .int m_kd, .int m_tg, .int m_ju])), (b_r, .inl (tc 0, 32, .inl m_reg))] H := hP
            have hD : va_D A [(b_x, .inr (9, [.ref b_row, .ref b_part, .ref b_mem, .ref b_mrk, .ref b_sf, .ref b_ss, .ref b_sr, .int m_on, .ref b_h, .int m_hc, .ref b_r, .int m_pc, .ref b_in, .int m_giv, .int m_tak, .ref b_out, .int m_put, .int 0, .int m_cu, .int m_va, .int m_sp, .int m_un, .ref b_k, .int m_kc, .int m_kn, .int m_by, .int m_kd, .int m_tg, .int m_ju])), (b_r, .inl (tc 0, 32, .inl m_reg))] := hD
            refine lv_aload_n hx hb d_M_set_61 rfl (lv_at hl 0 rfl) ?_
            refine lv_iconst (v := 0) hx hb d_M_set_62 (by decide) ?_
            refine va_put (D := D) (ci := 9) (v := .int 0) (ty := .int) (C := "StepMachineModel") (T := TX9) (N := 29) hx hb hts inU_9 tyX9 tyX9_ok nmX9 hown hK hP hD hS 0 rfl rfl 18 (by decide) (hts _ a_651) (fun _ h9 => h9) rfl (by decide +kernel) rfl rfl (Nat.le_of_ble_eq_true rfl) d_M_set_63 (fun H locs hP hD hS => ?_)
            have hP : va_P D vwCl [(b_x, .inr (9, [.ref b_row, .ref b_part, .ref b_mem, .ref b_mrk, .ref b_sf, .ref b_ss, .ref b_sr, .int m_on, .ref b_h, .int m_hc, .ref b_r, .int m_pc, .ref b_in, .int m_giv, .int m_tak, .ref b_out, .int m_put, .int 0, .int 0, .int m_va, .int m_sp, .int m_un, .ref b_k, .int m_kc, .int m_kn, .int m_by, .int m_kd, .int m_tg, .int m_ju])), (b_r, .inl (tc 0, 32, .inl m_reg))] H := hP
            have hD : va_D A [(b_x, .inr (9, [.ref b_row, .ref b_part, .ref b_mem, .ref b_mrk, .ref b_sf, .ref b_ss, .ref b_sr, .int m_on, .ref b_h, .int m_hc, .ref b_r, .int m_pc, .ref b_in, .int m_giv, .int m_tak, .ref b_out, .int m_put, .int 0, .int 0, .int m_va, .int m_sp, .int m_un, .ref b_k, .int m_kc, .int m_kn, .int m_by, .int m_kd, .int m_tg, .int m_ju])), (b_r, .inl (tc 0, 32, .inl m_reg))] := hD
            refine lv_aload_n hx hb d_M_set_66 rfl (lv_at hl 0 rfl) ?_
            obtain ⟨q_67, e_67⟩ : ∃ z, z = mF_StepMachineModel_forget := ⟨_, rfl⟩
            refine wVv (As := []) (rest := []) e_67 ⟨hx, hb, hml, hown, hts⟩ (mc_StepMachineModel_forget l D tc tb z0 _ b_x b_row b_part b_mem b_mrk b_sf b_ss b_sr b_h b_r b_in b_out b_k m_on m_hc m_pc m_giv m_tak m_put 0 0 m_va m_sp m_un m_kc m_kn m_by m_kd m_tg m_ju) (cwV 0 hts (goodV a_697 a_698 a_917 a_10 a_699) rfl rfl rfl hv_M_forget ⟨Nat.le_of_ble_eq_true rfl, Nat.le_of_ble_eq_true rfl⟩) hP hD hS hA hZ hK hB [0] rfl (by decide) (fun _ => rfl) rfl rfl rfl hl.1 rfl (Nat.le_of_ble_eq_true rfl) d_M_set_67 ⟨Nat.zero_le _, Nat.zero_le _⟩ (fun H locs hP hD hS => ?_)
            have hP : va_P D vwCl [(b_x, .inr (9, [.ref b_row, .ref b_part, .ref b_mem, .ref b_mrk, .ref b_sf, .ref b_ss, .ref b_sr, .int m_on, .ref b_h, .int m_hc, .ref b_r, .int m_pc, .ref b_in, .int m_giv, .int m_tak, .ref b_out, .int m_put, .int 0, .int 0, .int m_va, .int m_sp, .int m_un, .ref b_k, .int q_67, .int m_kn, .int m_by, .int m_kd, .int m_tg, .int m_ju])), (b_r, .inl (tc 0, 32, .inl m_reg))] H := hP
            have hD : va_D A [(b_x, .inr (9, [.ref b_row, .ref b_part, .ref b_mem, .ref b_mrk, .ref b_sf, .ref b_ss, .ref b_sr, .int m_on, .ref b_h, .int m_hc, .ref b_r, .int m_pc, .ref b_in, .int m_giv, .int m_tak, .ref b_out, .int m_put, .int 0, .int 0, .int m_va, .int m_sp, .int m_un, .ref b_k, .int q_67, .int m_kn, .int m_by, .int m_kd, .int m_tg, .int m_ju])), (b_r, .inl (tc 0, 32, .inl m_reg))] := hD
            refine lv_iconst (v := 1) hx hb d_M_set_70 (by decide) ?_
            exact W.zret (v := 1) hx hb hr rfl (fun t ht hW => ⟨⟨_, (m_reg, m_pc, 0, 0, q_67), rfl, by rw [mF_StepMachineModel_set, if_neg c_2, if_neg c_8, if_neg c_14, if_pos c_29, if_pos c_53, ← e_67, mF_StepMachineModel_set_2], by rw [ht]; exact hP, va_K.moved hW.alike hK, hD⟩, hS.F ht⟩) hS.2.2 d_M_set_71
        · skip
          refine lv_aload_n hx hb d_M_set_32 rfl (lv_at hl 0 rfl) ?_
          refine va_get (D := D) (ci := 9) (v := .ref b_r) (C := "StepMachineModel") (T := TX9) (N := 29) hx hb hts inU_9 hown hK hP 0 rfl rfl 10 (by decide) (hts _ a_643) (fun _ h9 => h9) rfl d_M_set_33 ?_
          refine lv_iload_n hx hb d_M_set_36 rfl (lv_at hl 1 rfl) ?_
          refine lv_iload_n hx hb d_M_set_37 rfl (lv_at hl 2 rfl) ?_
          refine va_iast hx hb hK hP hD hS 1 0 rfl rfl (in_33 c_2 (by first | exact ob_lt32 c_29 | exact absurd c_14 c_29)) d_M_set_38 (fun H locs hP hD hS => ?_)
          have hP : va_P D vwCl [(b_x, .inr (9, [.ref b_row, .ref b_part, .ref b_mem, .ref b_mrk, .ref b_sf, .ref b_ss, .ref b_sr, .int m_on, .ref b_h, .int m_hc, .ref b_r, .int m_pc, .ref b_in, .int m_giv, .int m_tak, .ref b_out, .int m_put, .int m_st, .int m_cu, .int m_va, .int m_sp, .int m_un, .ref b_k, .int m_kc, .int m_kn, .int m_by, .int m_kd, .int m_tg, .int m_ju])), (b_r, .inl (tc 0, 32, .inl (upd m_reg x0.toNatClampNeg x1)))] H := hP
          have hD : va_D A [(b_x, .inr (9, [.ref b_row, .ref b_part, .ref b_mem, .ref b_mrk, .ref b_sf, .ref b_ss, .ref b_sr, .int m_on, .ref b_h, .int m_hc, .ref b_r, .int m_pc, .ref b_in, .int m_giv, .int m_tak, .ref b_out, .int m_put, .int m_st, .int m_cu, .int m_va, .int m_sp, .int m_un, .ref b_k, .int m_kc, .int m_kn, .int m_by, .int m_kd, .int m_tg, .int m_ju])), (b_r, .inl (tc 0, 32, .inl (upd m_reg x0.toNatClampNeg x1)))] := hD
          refine lv_iload_n hx hb d_M_set_39 rfl (lv_at hl 1 rfl) ?_
          refine lv_bipush (v := 32) hx hb d_M_set_40 (by decide) ?_
          refine lv_icmp_ne (tgt := 50) hx hb d_M_set_42 (by decide) (fun c_42 => ?_) (fun c_42 => absurd c_42 c_14)
          refine lv_iload_n hx hb d_M_set_50 rfl (lv_at hl 1 rfl) ?_
          refine lv_bipush (v := 33) hx hb d_M_set_51 (by decide) ?_
          refine lv_icmp_ne (tgt := 66) hx hb d_M_set_53 (by decide) (fun c_53 => ?_) (fun c_53 => ?_)
          · skip
            refine lv_aload_n hx hb d_M_set_66 rfl (lv_at hl 0 rfl) ?_
            obtain ⟨q_67, e_67⟩ : ∃ z, z = mF_StepMachineModel_forget := ⟨_, rfl⟩
            refine wVv (As := []) (rest := []) e_67 ⟨hx, hb, hml, hown, hts⟩ (mc_StepMachineModel_forget l D tc tb z0 _ b_x b_row b_part b_mem b_mrk b_sf b_ss b_sr b_h b_r b_in b_out b_k m_on m_hc m_pc m_giv m_tak m_put m_st m_cu m_va m_sp m_un m_kc m_kn m_by m_kd m_tg m_ju) (cwV 0 hts (goodV a_697 a_698 a_917 a_10 a_699) rfl rfl rfl hv_M_forget ⟨Nat.le_of_ble_eq_true rfl, Nat.le_of_ble_eq_true rfl⟩) hP hD hS hA hZ hK hB [0] rfl (by decide) (fun _ => rfl) rfl rfl rfl hl.1 rfl (Nat.le_of_ble_eq_true rfl) d_M_set_67 ⟨Nat.zero_le _, Nat.zero_le _⟩ (fun H locs hP hD hS => ?_)
            have hP : va_P D vwCl [(b_x, .inr (9, [.ref b_row, .ref b_part, .ref b_mem, .ref b_mrk, .ref b_sf, .ref b_ss, .ref b_sr, .int m_on, .ref b_h, .int m_hc, .ref b_r, .int m_pc, .ref b_in, .int m_giv, .int m_tak, .ref b_out, .int m_put, .int m_st, .int m_cu, .int m_va, .int m_sp, .int m_un, .ref b_k, .int q_67, .int m_kn, .int m_by, .int m_kd, .int m_tg, .int m_ju])), (b_r, .inl (tc 0, 32, .inl (upd m_reg x0.toNatClampNeg x1)))] H := hP
            have hD : va_D A [(b_x, .inr (9, [.ref b_row, .ref b_part, .ref b_mem, .ref b_mrk, .ref b_sf, .ref b_ss, .ref b_sr, .int m_on, .ref b_h, .int m_hc, .ref b_r, .int m_pc, .ref b_in, .int m_giv, .int m_tak, .ref b_out, .int m_put, .int m_st, .int m_cu, .int m_va, .int m_sp, .int m_un, .ref b_k, .int q_67, .int m_kn, .int m_by, .int m_kd, .int m_tg, .int m_ju])), (b_r, .inl (tc 0, 32, .inl (upd m_reg x0.toNatClampNeg x1)))] := hD
            refine lv_iconst (v := 1) hx hb d_M_set_70 (by decide) ?_
            exact W.zret (v := 1) hx hb hr rfl (fun t ht hW => ⟨⟨_, ((upd m_reg x0.toNatClampNeg x1), m_pc, m_st, m_cu, q_67), rfl, by rw [mF_StepMachineModel_set, if_neg c_2, if_neg c_8, if_neg c_14, if_neg c_29, if_neg c_53, ← e_67, mF_StepMachineModel_set_3], by rw [ht]; exact hP, va_K.moved hW.alike hK, hD⟩, hS.F ht⟩) hS.2.2 d_M_set_71
          · skip
            refine lv_aload_n hx hb d_M_set_56 rfl (lv_at hl 0 rfl) ?_
            refine lv_iconst (v := 0) hx hb d_M_set_57 (by decide) ?_
            refine va_put (D := D) (ci := 9) (v := .int 0) (ty := .int) (C := "StepMachineModel") (T := TX9) (N := 29) hx hb hts inU_9 tyX9 tyX9_ok nmX9 hown hK hP hD hS 0 rfl rfl 17 (by decide) (hts _ a_650) (fun _ h9 => h9) rfl (by decide +kernel) rfl rfl (Nat.le_of_ble_eq_true rfl) d_M_set_58 (fun H locs hP hD hS => ?_)
            have hP : va_P D vwCl [(b_x, .inr (9, [.ref b_row, .ref b_part, .ref b_mem, .ref b_mrk, .ref b_sf, .ref b_ss, .ref b_sr, .int m_on, .ref b_h, .int m_hc, .ref b_r, .int m_pc, .ref b_in, .int m_giv, .int m_tak, .ref b_out, .int m_put, .int 0, .int m_cu, .int m_va, .int m_sp, .int m_un, .ref b_k, .int m_kc, .int m_kn, .int m_by, .int m_kd, .int m_tg, .int m_ju])), (b_r, .inl (tc 0, 32, .inl (upd m_reg x0.toNatClampNeg x1)))] H := hP
            have hD : va_D A [(b_x, .inr (9, [.ref b_row, .ref b_part, .ref b_mem, .ref b_mrk, .ref b_sf, .ref b_ss, .ref b_sr, .int m_on, .ref b_h, .int m_hc, .ref b_r, .int m_pc, .ref b_in, .int m_giv, .int m_tak, .ref b_out, .int m_put, .int 0, .int m_cu, .int m_va, .int m_sp, .int m_un, .ref b_k, .int m_kc, .int m_kn, .int m_by, .int m_kd, .int m_tg, .int m_ju])), (b_r, .inl (tc 0, 32, .inl (upd m_reg x0.toNatClampNeg x1)))] := hD
            refine lv_aload_n hx hb d_M_set_61 rfl (lv_at hl 0 rfl) ?_
            refine lv_iconst (v := 0) hx hb d_M_set_62 (by decide) ?_
            refine va_put (D := D) (ci := 9) (v := .int 0) (ty := .int) (C := "StepMachineModel") (T := TX9) (N := 29) hx hb hts inU_9 tyX9 tyX9_ok nmX9 hown hK hP hD hS 0 rfl rfl 18 (by decide) (hts _ a_651) (fun _ h9 => h9) rfl (by decide +kernel) rfl rfl (Nat.le_of_ble_eq_true rfl) d_M_set_63 (fun H locs hP hD hS => ?_)
            have hP : va_P D vwCl [(b_x, .inr (9, [.ref b_row, .ref b_part, .ref b_mem, .ref b_mrk, .ref b_sf, .ref b_ss, .ref b_sr, .int m_on, .ref b_h, .int m_hc, .ref b_r, .int m_pc, .ref b_in, .int m_giv, .int m_tak, .ref b_out, .int m_put, .int 0, .int 0, .int m_va, .int m_sp, .int m_un, .ref b_k, .int m_kc, .int m_kn, .int m_by, .int m_kd, .int m_tg, .int m_ju])), (b_r, .inl (tc 0, 32, .inl (upd m_reg x0.toNatClampNeg x1)))] H := hP
            have hD : va_D A [(b_x, .inr (9, [.ref b_row, .ref b_part, .ref b_mem, .ref b_mrk, .ref b_sf, .ref b_ss, .ref b_sr, .int m_on, .ref b_h, .int m_hc, .ref b_r, .int m_pc, .ref b_in, .int m_giv, .int m_tak, .ref b_out, .int m_put, .int 0, .int 0, .int m_va, .int m_sp, .int m_un, .ref b_k, .int m_kc, .int m_kn, .int m_by, .int m_kd, .int m_tg, .int m_ju])), (b_r, .inl (tc 0, 32, .inl (upd m_reg x0.toNatClampNeg x1)))] := hD
            refine lv_aload_n hx hb d_M_set_66 rfl (lv_at hl 0 rfl) ?_
            obtain ⟨q_67, e_67⟩ : ∃ z, z = mF_StepMachineModel_forget := ⟨_, rfl⟩
            refine wVv (As := []) (rest := []) e_67 ⟨hx, hb, hml, hown, hts⟩ (mc_StepMachineModel_forget l D tc tb z0 _ b_x b_row b_part b_mem b_mrk b_sf b_ss b_sr b_h b_r b_in b_out b_k m_on m_hc m_pc m_giv m_tak m_put 0 0 m_va m_sp m_un m_kc m_kn m_by m_kd m_tg m_ju) (cwV 0 hts (goodV a_697 a_698 a_917 a_10 a_699) rfl rfl rfl hv_M_forget ⟨Nat.le_of_ble_eq_true rfl, Nat.le_of_ble_eq_true rfl⟩) hP hD hS hA hZ hK hB [0] rfl (by decide) (fun _ => rfl) rfl rfl rfl hl.1 rfl (Nat.le_of_ble_eq_true rfl) d_M_set_67 ⟨Nat.zero_le _, Nat.zero_le _⟩ (fun H locs hP hD hS => ?_)
            have hP : va_P D vwCl [(b_x, .inr (9, [.ref b_row, .ref b_part, .ref b_mem, .ref b_mrk, .ref b_sf, .ref b_ss, .ref b_sr, .int m_on, .ref b_h, .int m_hc, .ref b_r, .int m_pc, .ref b_in, .int m_giv, .int m_tak, .ref b_out, .int m_put, .int 0, .int 0, .int m_va, .int m_sp, .int m_un, .ref b_k, .int q_67, .int m_kn, .int m_by, .int m_kd, .int m_tg, .int m_ju])), (b_r, .inl (tc 0, 32, .inl (upd m_reg x0.toNatClampNeg x1)))] H := hP
            have hD : va_D A [(b_x, .inr (9, [.ref b_row, .ref b_part, .ref b_mem, .ref b_mrk, .ref b_sf, .ref b_ss, .ref b_sr, .int m_on, .ref b_h, .int m_hc, .ref b_r, .int m_pc, .ref b_in, .int m_giv, .int m_tak, .ref b_out, .int m_put, .int 0, .int 0, .int m_va, .int m_sp, .int m_un, .ref b_k, .int q_67, .int m_kn, .int m_by, .int m_kd, .int m_tg, .int m_ju])), (b_r, .inl (tc 0, 32, .inl (upd m_reg x0.toNatClampNeg x1)))] := hD
            refine lv_iconst (v := 1) hx hb d_M_set_70 (by decide) ?_
            exact W.zret (v := 1) hx hb hr rfl (fun t ht hW => ⟨⟨_, ((upd m_reg x0.toNatClampNeg x1), m_pc, 0, 0, q_67), rfl, by rw [mF_StepMachineModel_set, if_neg c_2, if_neg c_8, if_neg c_14, if_neg c_29, if_pos c_53, ← e_67, mF_StepMachineModel_set_4], by rw [ht]; exact hP, va_K.moved hW.alike hK, hD⟩, hS.F ht⟩) hS.2.2 d_M_set_71
      · skip
        refine lv_iload_n hx hb d_M_set_17 rfl (lv_at hl 2 rfl) ?_
        refine lv_iconst (v := 1) hx hb d_M_set_18 (by decide) ?_
        refine lv_iand hx hb d_M_set_19 ?_
        refine lv_iconst (v := 1) hx hb d_M_set_20 (by decide) ?_
        refine lv_icmp_ne (tgt := 26) hx hb d_M_set_21 (by decide) (fun c_21 => ?_) (fun c_21 => ?_)
        · skip
          refine lv_iload_n hx hb d_M_set_26 rfl (lv_at hl 1 rfl) ?_
          refine lv_bipush (v := 32) hx hb d_M_set_27 (by decide) ?_
          refine lv_icmp_ge (tgt := 39) hx hb d_M_set_29 (by decide) (fun c_29 => ?_) (fun c_29 => absurd (by rw [c_14]; decide) c_29)
          refine lv_iload_n hx hb d_M_set_39 rfl (lv_at hl 1 rfl) ?_
          refine lv_bipush (v := 32) hx hb d_M_set_40 (by decide) ?_
          refine lv_icmp_ne (tgt := 50) hx hb d_M_set_42 (by decide) (fun c_42 => absurd c_14 c_42) (fun c_42 => ?_)
          refine lv_aload_n hx hb d_M_set_45 rfl (lv_at hl 0 rfl) ?_
          refine lv_iload_n hx hb d_M_set_46 rfl (lv_at hl 2 rfl) ?_
          refine va_put (D := D) (ci := 9) (v := .int x1) (ty := .int) (C := "StepMachineModel") (T := TX9) (N := 29) hx hb hts inU_9 tyX9 tyX9_ok nmX9 hown hK hP hD hS 0 rfl rfl 11 (by decide) (hts _ a_644) (fun _ h9 => h9) rfl (by decide +kernel) rfl rfl (Nat.le_of_ble_eq_true rfl) d_M_set_47 (fun H locs hP hD hS => ?_)
          have hP : va_P D vwCl [(b_x, .inr (9, [.ref b_row, .ref b_part, .ref b_mem, .ref b_mrk, .ref b_sf, .ref b_ss, .ref b_sr, .int m_on, .ref b_h, .int m_hc, .ref b_r, .int x1, .ref b_in, .int m_giv, .int m_tak, .ref b_out, .int m_put, .int m_st, .int m_cu, .int m_va, .int m_sp, .int m_un, .ref b_k, .int m_kc, .int m_kn, .int m_by, .int m_kd, .int m_tg, .int m_ju])), (b_r, .inl (tc 0, 32, .inl m_reg))] H := hP
          have hD : va_D A [(b_x, .inr (9, [.ref b_row, .ref b_part, .ref b_mem, .ref b_mrk, .ref b_sf, .ref b_ss, .ref b_sr, .int m_on, .ref b_h, .int m_hc, .ref b_r, .int x1, .ref b_in, .int m_giv, .int m_tak, .ref b_out, .int m_put, .int m_st, .int m_cu, .int m_va, .int m_sp, .int m_un, .ref b_k, .int m_kc, .int m_kn, .int m_by, .int m_kd, .int m_tg, .int m_ju])), (b_r, .inl (tc 0, 32, .inl m_reg))] := hD
          refine lv_iload_n hx hb d_M_set_50 rfl (lv_at hl 1 rfl) ?_
          refine lv_bipush (v := 33) hx hb d_M_set_51 (by decide) ?_
          refine lv_icmp_ne (tgt := 66) hx hb d_M_set_53 (by decide) (fun c_53 => ?_) (fun c_53 => absurd c_53 (by rw [c_14]; decide))
          refine lv_aload_n hx hb d_M_set_66 rfl (lv_at hl 0 rfl) ?_
          obtain ⟨q_67, e_67⟩ : ∃ z, z = mF_StepMachineModel_forget := ⟨_, rfl⟩
          refine wVv (As := []) (rest := []) e_67 ⟨hx, hb, hml, hown, hts⟩ (mc_StepMachineModel_forget l D tc tb z0 _ b_x b_row b_part b_mem b_mrk b_sf b_ss b_sr b_h b_r b_in b_out b_k m_on m_hc x1 m_giv m_tak m_put m_st m_cu m_va m_sp m_un m_kc m_kn m_by m_kd m_tg m_ju) (cwV 0 hts (goodV a_697 a_698 a_917 a_10 a_699) rfl rfl rfl hv_M_forget ⟨Nat.le_of_ble_eq_true rfl, Nat.le_of_ble_eq_true rfl⟩) hP hD hS hA hZ hK hB [0] rfl (by decide) (fun _ => rfl) rfl rfl rfl hl.1 rfl (Nat.le_of_ble_eq_true rfl) d_M_set_67 ⟨Nat.zero_le _, Nat.zero_le _⟩ (fun H locs hP hD hS => ?_)
          have hP : va_P D vwCl [(b_x, .inr (9, [.ref b_row, .ref b_part, .ref b_mem, .ref b_mrk, .ref b_sf, .ref b_ss, .ref b_sr, .int m_on, .ref b_h, .int m_hc, .ref b_r, .int x1, .ref b_in, .int m_giv, .int m_tak, .ref b_out, .int m_put, .int m_st, .int m_cu, .int m_va, .int m_sp, .int m_un, .ref b_k, .int q_67, .int m_kn, .int m_by, .int m_kd, .int m_tg, .int m_ju])), (b_r, .inl (tc 0, 32, .inl m_reg))] H := hP
          have hD : va_D A [(b_x, .inr (9, [.ref b_row, .ref b_part, .ref b_mem, .ref b_mrk, .ref b_sf, .ref b_ss, .ref b_sr, .int m_on, .ref b_h, .int m_hc, .ref b_r, .int x1, .ref b_in, .int m_giv, .int m_tak, .ref b_out, .int m_put, .int m_st, .int m_cu, .int m_va, .int m_sp, .int m_un, .ref b_k, .int q_67, .int m_kn, .int m_by, .int m_kd, .int m_tg, .int m_ju])), (b_r, .inl (tc 0, 32, .inl m_reg))] := hD
          refine lv_iconst (v := 1) hx hb d_M_set_70 (by decide) ?_
          exact W.zret (v := 1) hx hb hr rfl (fun t ht hW => ⟨⟨_, (m_reg, x1, m_st, m_cu, q_67), rfl, by rw [mF_StepMachineModel_set, if_neg c_2, if_neg c_8, if_pos c_14, if_neg c_21, ← e_67, mF_StepMachineModel_set_5], by rw [ht]; exact hP, va_K.moved hW.alike hK, hD⟩, hS.F ht⟩) hS.2.2 d_M_set_71
        · skip
          refine lv_iconst (v := 0) hx hb d_M_set_24 (by decide) ?_
          exact W.zret (v := 0) hx hb hr rfl (fun t ht hW => ⟨⟨_, (m_reg, m_pc, m_st, m_cu, m_kc), rfl, by rw [mF_StepMachineModel_set, if_neg c_2, if_neg c_8, if_pos c_14, if_pos c_21], by rw [ht]; exact hP, va_K.moved hW.alike hK, hD⟩, hS.F ht⟩) hS.2.2 d_M_set_25
def mF_StepMachineModel_get (m_pc : Int32) (m_reg : Nat → Int32) (x0 : Int32) : Int32 := (if x0 = 32 then m_pc else (if x0 ≤ 0 then 0 else (if 32 ≤ x0 then 0 else (m_reg x0.toNatClampNeg))))
set_option maxHeartbeats 4000000 in
set_option maxRecDepth 100000 in
theorem mc_StepMachineModel_get (l : Launch) (D : va_G) (tc : Nat → ClassId) (tb : Nat → Nat) (z0 : Nat) (b_x b_r b_row b_part b_mem b_mrk b_sf b_ss b_sr b_h b_in b_out b_k : Nat) (m_on : Int32) (m_hc : Int32) (m_pc : Int32) (m_giv : Int32) (m_tak : Int32) (m_put : Int32) (m_st : Int32) (m_cu : Int32) (m_va : Int32) (m_sp : Int32) (m_un : Int32) (m_kc : Int32) (m_kn : Int32) (m_by : Int32) (m_kd : Int32) (m_tg : Int32) (m_ju : Int32) (m_reg : Nat → Int32) (x0 : Int32) : Met l y_M_get (wM y_M_get b_M_get 2 (some .int)) ({ frames := 0, cells := 0, slots := 0, locals := 0 }) (va_Pc [.ref b_x, .int x0] (Pr D tc tb z0 [(b_x, .inr (9, [.ref b_row, .ref b_part, .ref b_mem, .ref b_mrk, .ref b_sf, .ref b_ss, .ref b_sr, .int m_on, .ref b_h, .int m_hc, .ref b_r, .int m_pc, .ref b_in, .int m_giv, .int m_tak, .ref b_out, .int m_put, .int m_st, .int m_cu, .int m_va, .int m_sp, .int m_un, .ref b_k, .int m_kc, .int m_kn, .int m_by, .int m_kd, .int m_tg, .int m_ju])), (b_r, .inl (tc 0, 32, .inl m_reg))])) (vp_Si (fun r => r = (mF_StepMachineModel_get m_pc m_reg x0))) 0 0 (fun _ => False) := by
  refine Met.ofW (cc := b_M_get) (maxL := 2) (ret := (some .int)) (by decide) rfl ?_
  intro p e s m args below meth c s₁ B hml hv
  obtain ⟨rfl, hP, hK, hB⟩ := hv
  have hx := B.exec
  have hb := B.bytes
  have hr := B.returns
  have hts : ∀ w ∈ wALL, w.before _ s = true := fun w h => atoms_spec (ws := (wM y_M_get b_M_get 2 (some .int))) B.pre w (List.mem_cons_of_mem _ h)
  have hown : s.vm.findClass "StepMachineModel" = some m.cls := findClass_of_methodNamed B.named
  have hlocks := B.notSynchronized
  have hl := lv_entry ([.ref b_x, .int x0]) (n := 2) (Nat.le_of_ble_eq_true rfl)
  rw [lg_entry_eq]
  generalize (lg_sl ([.ref b_x, .int x0]) ++ List.replicate (2 - (lg_sl ([.ref b_x, .int x0])).length) Slot.unset).toArray = ls at hl ⊢
  have hl : lv_has ls 2 [(0, .ref b_x), (1, .int x0)] := hl
  refine lv_iload_n hx hb d_M_get_0 rfl (lv_at hl 1 rfl) ?_
  refine lv_bipush (v := 32) hx hb d_M_get_1 (by decide) ?_
  refine lv_icmp_ne (tgt := 13) hx hb d_M_get_3 (by decide) (fun c_3 => ?_) (fun c_3 => ?_)
  · skip
    refine lv_iload_n hx hb d_M_get_13 rfl (lv_at hl 1 rfl) ?_
    refine lv_if_le (tgt := 32) hx hb d_M_get_14 (by decide) (fun c_14 => ?_) (fun c_14 => ?_)
    · skip
      refine lv_iconst (v := 0) hx hb d_M_get_32 (by decide) ?_
      exact W.iret (v := 0) hx hb hr (fun t ht hW => ⟨_, rfl, by rw [mF_StepMachineModel_get, if_neg c_3, if_pos c_14], ht⟩) (fun q h => by cases h) d_M_get_33
    · skip
      refine lv_iload_n hx hb d_M_get_17 rfl (lv_at hl 1 rfl) ?_
      refine lv_bipush (v := 32) hx hb d_M_get_18 (by decide) ?_
      refine lv_icmp_ge (tgt := 32) hx hb d_M_get_20 (by decide) (fun c_20 => ?_) (fun c_20 => ?_)
      · skip
        refine lv_iconst (v := 0) hx hb d_M_get_32 (by decide) ?_
        exact W.iret (v := 0) hx hb hr (fun t ht hW => ⟨_, rfl, by rw [mF_StepMachineModel_get, if_neg c_3, if_neg c_14, if_pos c_20], ht⟩) (fun q h => by cases h) d_M_get_33
      · skip
        refine lv_aload_n hx hb d_M_get_23 rfl (lv_at hl 0 rfl) ?_
        refine va_get (D := D) (ci := 9) (v := .ref b_r) (C := "StepMachineModel") (T := TX9) (N := 29) hx hb hts inU_9 hown hK hP 0 rfl rfl 10 (by decide) (hts _ a_643) (fun _ h9 => h9) rfl d_M_get_24 ?_
        refine lv_iload_n hx hb d_M_get_27 rfl (lv_at hl 1 rfl) ?_
        refine va_iald hx hb hK hP 1 0 rfl rfl (in_get c_14 c_20) d_M_get_28 ?_
        refine lv_goto (tgt := 33) hx hb d_M_get_29 (by decide) ?_
        exact W.iret (v := (m_reg x0.toNatClampNeg)) hx hb hr (fun t ht hW => ⟨_, rfl, by rw [mF_StepMachineModel_get, if_neg c_3, if_neg c_14, if_neg c_20], ht⟩) (fun q h => by cases h) d_M_get_33
  · skip
    refine lv_aload_n hx hb d_M_get_6 rfl (lv_at hl 0 rfl) ?_
    refine va_get (D := D) (ci := 9) (v := .int m_pc) (C := "StepMachineModel") (T := TX9) (N := 29) hx hb hts inU_9 hown hK hP 0 rfl rfl 11 (by decide) (hts _ a_644) (fun _ h9 => h9) rfl d_M_get_7 ?_
    refine lv_goto (tgt := 33) hx hb d_M_get_10 (by decide) ?_
    exact W.iret (v := m_pc) hx hb hr (fun t ht hW => ⟨_, rfl, by rw [mF_StepMachineModel_get, if_pos c_3], ht⟩) (fun q h => by cases h) d_M_get_33
def mF_StepMachineModel_input_L28 (x0 : Int32) (x1 : Int64) : Nat → Int32 → (Nat → Int32) → Int32 → Int32 × (Nat → Int32) × Int32
  | 0, k_28, m_inL, m_givL => (k_28, m_inL, m_givL)
  | n_ + 1, k_28, m_inL, m_givL => (if x0 ≤ k_28 then (k_28, m_inL, m_givL) else ((mF_StepMachineModel_input_L28 x0 x1 n_) (k_28 + 1) (upd m_inL m_givL.toNatClampNeg (((j_lshr x1 (56 - (8 * k_28))) &&& 255).toInt32)) (m_givL + 1)))
def mF_StepMachineModel_input_2 (q_28 : Int32 × (Nat → Int32) × Int32) (q_75 : Int32) : Int32 × (Nat → Int32) × Int32 × Int32 := (1, q_28.2.1, q_28.2.2, q_75)
def mF_StepMachineModel_input_1  (q_28 : Int32 × (Nat → Int32) × Int32) : Int32 × (Nat → Int32) × Int32 × Int32 := (mF_StepMachineModel_input_2 q_28 mF_StepMachineModel_forget)
def mF_StepMachineModel_input (m_giv : Int32) (m_kc : Int32) (m_in : Nat → Int32) (x0 : Int32) (x1 : Int64) : Int32 × (Nat → Int32) × Int32 × Int32 := (if x0 < 1 then (0, m_in, m_giv, m_kc) else (if 8 < x0 then (0, m_in, m_giv, m_kc) else (if (m_giv + x0) ≤ 1000 then (mF_StepMachineModel_input_1 (mF_StepMachineModel_input_L28 x0 x1 ((x0.toInt - (0 : Int32).toInt).toNat + 1) (0 : Int32) m_in m_giv)) else (0, m_in, m_giv, m_kc))))
set_option maxHeartbeats 4000000 in
set_option maxRecDepth 100000 in
theorem mc_StepMachineModel_input (l : Launch) (D : va_G) (tc : Nat → ClassId) (tb : Nat → Nat) (z0 : Nat) (sz : Nat) (b_x b_in b_row b_part b_mem b_mrk b_sf b_ss b_sr b_h b_r b_out b_k : Nat) (m_on : Int32) (m_hc : Int32) (m_pc : Int32) (m_giv : Int32) (m_tak : Int32) (m_put : Int32) (m_st : Int32) (m_cu : Int32) (m_va : Int32) (m_sp : Int32) (m_un : Int32) (m_kc : Int32) (m_kn : Int32) (m_by : Int32) (m_kd : Int32) (m_tg : Int32) (m_ju : Int32) (m_in : Nat → Int32) (x0 : Int32) (x1 : Int64) (hp0 : 0 ≤ m_giv.toInt ∧ m_giv.toInt ≤ 1000) : Met l y_M_input (wM y_M_input b_M_input 5 (some .boolean)) ({ frames := 1, cells := 0, slots := 0, locals := 20 }) (va_Pc [.ref b_x, .int x0, .long x1] (Pw D tc tb z0 [(b_x, .inr (9, [.ref b_row, .ref b_part, .ref b_mem, .ref b_mrk, .ref b_sf, .ref b_ss, .ref b_sr, .int m_on, .ref b_h, .int m_hc, .ref b_r, .int m_pc, .ref b_in, .int m_giv, .int m_tak, .ref b_out, .int m_put, .int m_st, .int m_cu, .int m_va, .int m_sp, .int m_un, .ref b_k, .int m_kc, .int m_kn, .int m_by, .int m_kd, .int m_tg, .int m_ju])), (b_in, .inl (tc 0, 1000, .inl m_in))] sz)) (va_Qi (fun (r : Int32) (u : (Nat → Int32) × Int32 × Int32) => (r, u) = (mF_StepMachineModel_input m_giv m_kc m_in x0 x1)) (Bw D tc (va_A [(b_x, .inr (9, [.ref b_row, .ref b_part, .ref b_mem, .ref b_mrk, .ref b_sf, .ref b_ss, .ref b_sr, .int m_on, .ref b_h, .int m_hc, .ref b_r, .int m_pc, .ref b_in, .int m_giv, .int m_tak, .ref b_out, .int m_put, .int m_st, .int m_cu, .int m_va, .int m_sp, .int m_un, .ref b_k, .int m_kc, .int m_kn, .int m_by, .int m_kd, .int m_tg, .int m_ju])), (b_in, .inl (tc 0, 1000, .inl m_in))] sz) (fun u => [(b_x, .inr (9, [.ref b_row, .ref b_part, .ref b_mem, .ref b_mrk, .ref b_sf, .ref b_ss, .ref b_sr, .int m_on, .ref b_h, .int m_hc, .ref b_r, .int m_pc, .ref b_in, .int u.2.1, .int m_tak, .ref b_out, .int m_put, .int m_st, .int m_cu, .int m_va, .int m_sp, .int m_un, .ref b_k, .int u.2.2, .int m_kn, .int m_by, .int m_kd, .int m_tg, .int m_ju])), (b_in, .inl (tc 0, 1000, .inl u.1))])) (va_A [(b_x, .inr (9, [.ref b_row, .ref b_part, .ref b_mem, .ref b_mrk, .ref b_sf, .ref b_ss, .ref b_sr, .int m_on, .ref b_h, .int m_hc, .ref b_r, .int m_pc, .ref b_in, .int m_giv, .int m_tak, .ref b_out, .int m_put, .int m_st, .int m_cu, .int m_va, .int m_sp, .int m_un, .ref b_k, .int m_kc, .int m_kn, .int m_by, .int m_kd, .int m_tg, .int m_ju])), (b_in, .inl (tc 0, 1000, .inl m_in))] sz)) 0 0 (va_A [(b_x, .inr (9, [.ref b_row, .ref b_part, .ref b_mem, .ref b_mrk, .ref b_sf, .ref b_ss, .ref b_sr, .int m_on, .ref b_h, .int m_hc, .ref b_r, .int m_pc, .ref b_in, .int m_giv, .int m_tak, .ref b_out, .int m_put, .int m_st, .int m_cu, .int m_va, .int m_sp, .int m_un, .ref b_k, .int m_kc, .int m_kn, .int m_by, .int m_kd, .int m_tg, .int m_ju])), (b_in, .inl (tc 0, 1000, .inl m_in))] sz) := by
  refine Met.ofW (cc := b_M_input) (maxL := 5) (ret := (some .boolean)) (by decide) rfl ?_
  intro p e s m args below meth c s₁ B hml hv
  obtain ⟨rfl, hsz, hP, hK, hB, hD0, hZ0⟩ := hv
  have hx := B.exec
  have hb := B.bytes
  have hr := B.returns
  have hts : ∀ w ∈ wALL, w.before _ s = true := fun w h => atoms_spec (ws := (wM y_M_input b_M_input 5 (some .boolean))) B.pre w (List.mem_cons_of_mem _ h)
  have hown : s.vm.findClass "StepMachineModel" = some m.cls := findClass_of_methodNamed B.named
  have hlocks := B.notSynchronized
  subst hsz
  have hD := hD0.self (sz := s.heap.size)
  generalize hAe : va_A [(b_x, .inr (9, [.ref b_row, .ref b_part, .ref b_mem, .ref b_mrk, .ref b_sf, .ref b_ss, .ref b_sr, .int m_on, .ref b_h, .int m_hc, .ref b_r, .int m_pc, .ref b_in, .int m_giv, .int m_tak, .ref b_out, .int m_put, .int m_st, .int m_cu, .int m_va, .int m_sp, .int m_un, .ref b_k, .int m_kc, .int m_kn, .int m_by, .int m_kd, .int m_tg, .int m_ju])), (b_in, .inl (tc 0, 1000, .inl m_in))] s.heap.size = A at hD ⊢
  have hZ : ∀ q : Nat, A q → z0 ≤ q := by rw [← hAe]; exact hZ0
  have hA : ∀ q : Nat, s.heap.size ≤ q → A q := fun q h => by rw [← hAe]; exact Or.inr h
  have hS : va_S A s.heap s.heap [] := va_S.rf
  have hl := lv_entry ([.ref b_x, .int x0, .long x1]) (n := 5) (Nat.le_of_ble_eq_true rfl)
  rw [lg_entry_eq]
  generalize (lg_sl ([.ref b_x, .int x0, .long x1]) ++ List.replicate (5 - (lg_sl ([.ref b_x, .int x0, .long x1])).length) Slot.unset).toArray = ls at hl ⊢
  have hl : lv_has ls 5 [(0, .ref b_x), (1, .int x0), (2, .long x1)] := hl
  refine lv_iload_n hx hb d_M_input_0 rfl (lv_at hl 1 rfl) ?_
  refine lv_iconst (v := 1) hx hb d_M_input_1 (by decide) ?_
  refine lv_icmp_lt (tgt := 23) hx hb d_M_input_2 (by decide) (fun c_2 => ?_) (fun c_2 => ?_)
  · skip
    refine lv_iconst (v := 0) hx hb d_M_input_23 (by decide) ?_
    exact W.zret (v := 0) hx hb hr rfl (fun t ht hW => ⟨⟨_, (m_in, m_giv, m_kc), rfl, by rw [mF_StepMachineModel_input, if_pos c_2], by rw [ht]; exact hP, va_K.moved hW.alike hK, hD⟩, hS.F ht⟩) hS.2.2 d_M_input_24
  · skip
    refine lv_iload_n hx hb d_M_input_5 rfl (lv_at hl 1 rfl) ?_
    refine lv_bipush (v := 8) hx hb d_M_input_6 (by decide) ?_
    refine lv_icmp_gt (tgt := 23) hx hb d_M_input_8 (by decide) (fun c_8 => ?_) (fun c_8 => ?_)
    · skip
      refine lv_iconst (v := 0) hx hb d_M_input_23 (by decide) ?_
      exact W.zret (v := 0) hx hb hr rfl (fun t ht hW => ⟨⟨_, (m_in, m_giv, m_kc), rfl, by rw [mF_StepMachineModel_input, if_neg c_2, if_pos c_8], by rw [ht]; exact hP, va_K.moved hW.alike hK, hD⟩, hS.F ht⟩) hS.2.2 d_M_input_24
    · skip
      refine lv_aload_n hx hb d_M_input_11 rfl (lv_at hl 0 rfl) ?_
      refine va_get (D := D) (ci := 9) (v := .int m_giv) (C := "StepMachineModel") (T := TX9) (N := 29) hx hb hts inU_9 hown hK hP 0 rfl rfl 13 (by decide) (hts _ a_646) (fun _ h9 => h9) rfl d_M_input_12 ?_
      refine lv_iload_n hx hb d_M_input_15 rfl (lv_at hl 1 rfl) ?_
      refine lv_iadd hx hb d_M_input_16 ?_
      refine lv_sipush (v := 1000) hx hb d_M_input_17 (by decide) ?_
      refine lv_icmp_le (tgt := 25) hx hb d_M_input_20 (by decide) (fun c_20 => ?_) (fun c_20 => ?_)
      · skip
        refine lv_iconst (v := 0) hx hb d_M_input_25 (by decide) ?_
        refine lv_istore (lv' := [(4, .int 0), (0, .ref b_x), (1, .int x0), (2, .long x1)]) hx hb d_M_input_26 hl (by decide) rfl (fun ls hl => ?_)
        have loop_28 : ∀ (n_28 : Nat) (k_28 : Int32) (m_inL : Nat → Int32) (m_givL : Int32) (H : Heap) (locs : List Loc) (ls : Array Slot), (0 ≤ k_28.toInt) → (0 ≤ m_givL.toInt ∧ m_givL.toInt + (x0.toInt - k_28.toInt) ≤ 1000) → (x0.toInt - k_28.toInt).toNat < n_28 → (∀ (H : Heap) (locs : List Loc) (ls : Array Slot), (0 ≤ (mF_StepMachineModel_input_L28 x0 x1 n_28 k_28 m_inL m_givL).1.toInt) → (0 ≤ (mF_StepMachineModel_input_L28 x0 x1 n_28 k_28 m_inL m_givL).2.2.toInt ∧ (mF_StepMachineModel_input_L28 x0 x1 n_28 k_28 m_inL m_givL).2.2.toInt + (x0.toInt - (mF_StepMachineModel_input_L28 x0 x1 n_28 k_28 m_inL m_givL).1.toInt) ≤ 1000) → va_P D vwCl [(b_x, .inr (9, [.ref b_row, .ref b_part, .ref b_mem, .ref b_mrk, .ref b_sf, .ref b_ss, .ref b_sr, .int m_on, .ref b_h, .int m_hc, .ref b_r, .int m_pc, .ref b_in, .int ((mF_StepMachineModel_input_L28 x0 x1 n_28 k_28 m_inL m_givL).2.2), .int m_tak, .ref b_out, .int m_put, .int m_st, .int m_cu, .int m_va, .int m_sp, .int m_un, .ref b_k, .int m_kc, .int m_kn, .int m_by, .int m_kd, .int m_tg, .int m_ju])), (b_in, .inl (tc 0, 1000, .inl ((mF_StepMachineModel_input_L28 x0 x1 n_28 k_28 m_inL m_givL).2.1)))] H → va_D A [(b_x, .inr (9, [.ref b_row, .ref b_part, .ref b_mem, .ref b_mrk, .ref b_sf, .ref b_ss, .ref b_sr, .int m_on, .ref b_h, .int m_hc, .ref b_r, .int m_pc, .ref b_in, .int ((mF_StepMachineModel_input_L28 x0 x1 n_28 k_28 m_inL m_givL).2.2), .int m_tak, .ref b_out, .int m_put, .int m_st, .int m_cu, .int m_va, .int m_sp, .int m_un, .ref b_k, .int m_kc, .int m_kn, .int m_by, .int m_kd, .int m_tg, .int m_ju])), (b_in, .inl (tc 0, 1000, .inl ((mF_StepMachineModel_input_L28 x0 x1 n_28 k_28 m_inL m_givL).2.1)))] → va_S A s.heap H locs → lv_has ls 5 [(4, .int ((mF_StepMachineModel_input_L28 x0 x1 n_28 k_28 m_inL m_givL).1)), (0, .ref b_x), (1, .int x0), (2, .long x1)] → W p l e (headSpec (wM y_M_input b_M_input 5 (some .boolean)) ({ frames := 1, cells := 0, slots := 0, locals := 20 })).room s m ([.ref b_x, .int x0, .long x1]).toArray below meth c H locs 0 0 (MQ below (va_Qi (fun (r : Int32) (u : (Nat → Int32) × Int32 × Int32) => (r, u) = (mF_StepMachineModel_input m_giv m_kc m_in x0 x1)) (Bw D tc A (fun u => [(b_x, .inr (9, [.ref b_row, .ref b_part, .ref b_mem, .ref b_mrk, .ref b_sf, .ref b_ss, .ref b_sr, .int m_on, .ref b_h, .int m_hc, .ref b_r, .int m_pc, .ref b_in, .int u.2.1, .int m_tak, .ref b_out, .int m_put, .int m_st, .int m_cu, .int m_va, .int m_sp, .int m_un, .ref b_k, .int u.2.2, .int m_kn, .int m_by, .int m_kd, .int m_tg, .int m_ju])), (b_in, .inl (tc 0, 1000, .inl u.1))])) A) ([.ref b_x, .int x0, .long x1]).toArray s 0 0 A) (F0 m 74 ls [])) → va_P D vwCl [(b_x, .inr (9, [.ref b_row, .ref b_part, .ref b_mem, .ref b_mrk, .ref b_sf, .ref b_ss, .ref b_sr, .int m_on, .ref b_h, .int m_hc, .ref b_r, .int m_pc, .ref b_in, .int m_givL, .int m_tak, .ref b_out, .int m_put, .int m_st, .int m_cu, .int m_va, .int m_sp, .int m_un, .ref b_k, .int m_kc, .int m_kn, .int m_by, .int m_kd, .int m_tg, .int m_ju])), (b_in, .inl (tc 0, 1000, .inl m_inL))] H → va_D A [(b_x, .inr (9, [.ref b_row, .ref b_part, .ref b_mem, .ref b_mrk, .ref b_sf, .ref b_ss, .ref b_sr, .int m_on, .ref b_h, .int m_hc, .ref b_r, .int m_pc, .ref b_in, .int m_givL, .int m_tak, .ref b_out, .int m_put, .int m_st, .int m_cu, .int m_va, .int m_sp, .int m_un, .ref b_k, .int m_kc, .int m_kn, .int m_by, .int m_kd, .int m_tg, .int m_ju])), (b_in, .inl (tc 0, 1000, .inl m_inL))] → va_S A s.heap H locs → lv_has ls 5 [(4, .int k_28), (0, .ref b_x), (1, .int x0), (2, .long x1)] → W p l e (headSpec (wM y_M_input b_M_input 5 (some .boolean)) ({ frames := 1, cells := 0, slots := 0, locals := 20 })).room s m ([.ref b_x, .int x0, .long x1]).toArray below meth c H locs 0 0 (MQ below (va_Qi (fun (r : Int32) (u : (Nat → Int32) × Int32 × Int32) => (r, u) = (mF_StepMachineModel_input m_giv m_kc m_in x0 x1)) (Bw D tc A (fun u => [(b_x, .inr (9, [.ref b_row, .ref b_part, .ref b_mem, .ref b_mrk, .ref b_sf, .ref b_ss, .ref b_sr, .int m_on, .ref b_h, .int m_hc, .ref b_r, .int m_pc, .ref b_in, .int u.2.1, .int m_tak, .ref b_out, .int m_put, .int m_st, .int m_cu, .int m_va, .int m_sp, .int m_un, .ref b_k, .int u.2.2, .int m_kn, .int m_by, .int m_kd, .int m_tg, .int m_ju])), (b_in, .inl (tc 0, 1000, .inl u.1))])) A) ([.ref b_x, .int x0, .long x1]).toArray s 0 0 A) (F0 m 28 ls []) := by
          intro n_28
          induction n_28 with
          | zero =>
            intro k_28 m_inL m_givL H locs ls hq hg hm
            exact absurd hm (Nat.not_lt_zero _)
          | succ n_28 ih_28 =>
            intro k_28 m_inL m_givL H locs ls hq hg hm_28 hX_28 hP hD hS hl
            refine lv_iload hx hb d_M_input_28 (lv_at hl 0 rfl) ?_
            refine lv_iload_n hx hb d_M_input_30 rfl (lv_at hl 2 rfl) ?_
            refine lv_icmp_ge (tgt := 74) hx hb d_M_input_31 (by decide) (fun c_31 => ?_) (fun c_31 => ?_)
            · skip
              rw [mF_StepMachineModel_input_L28, if_pos c_31] at hX_28
              exact hX_28 _ _ ls hq hg hP hD hS (lv_sub hl [0, 1, 2, 3] rfl)
            · skip
              refine lv_aload_n hx hb d_M_input_34 rfl (lv_at hl 1 rfl) ?_
              refine va_get (D := D) (ci := 9) (v := .ref b_in) (C := "StepMachineModel") (T := TX9) (N := 29) hx hb hts inU_9 hown hK hP 0 rfl rfl 12 (by decide) (hts _ a_645) (fun _ h9 => h9) rfl d_M_input_35 ?_
              refine lv_aload_n hx hb d_M_input_38 rfl (lv_at hl 1 rfl) ?_
              refine va_get (D := D) (ci := 9) (v := .int m_givL) (C := "StepMachineModel") (T := TX9) (N := 29) hx hb hts inU_9 hown hK hP 0 rfl rfl 13 (by decide) (hts _ a_646) (fun _ h9 => h9) rfl d_M_input_39 ?_
              refine lv_lload_n hx hb d_M_input_42 rfl (lv_at hl 3 rfl) ?_
              refine lv_bipush (v := 56) hx hb d_M_input_43 (by decide) ?_
              refine lv_bipush (v := 8) hx hb d_M_input_45 (by decide) ?_
              refine lv_iload hx hb d_M_input_47 (lv_at hl 0 rfl) ?_
              refine lv_imul hx hb d_M_input_49 ?_
              refine lv_isub hx hb d_M_input_50 ?_
              refine lv_lshr (v := (j_lshr x1 (56 - (8 * k_28)))) hx hb d_M_input_51 rfl ?_
              refine lv_ldc2 (v := 255) hx hb hown (hts _ a_712) d_M_input_52 ?_
              refine lv_land hx hb d_M_input_55 ?_
              refine lv_l2i (v := ((j_lshr x1 (56 - (8 * k_28))) &&& 255).toInt32) hx hb d_M_input_56 rfl ?_
              refine va_iast hx hb hK hP hD hS 1 0 rfl rfl (in_inp c_2 c_8 hg hq c_31) d_M_input_57 (fun H locs hP hD hS => ?_)
              have hP : va_P D vwCl [(b_x, .inr (9, [.ref b_row, .ref b_part, .ref b_mem, .ref b_mrk, .ref b_sf, .ref b_ss, .ref b_sr, .int m_on, .ref b_h, .int m_hc, .ref b_r, .int m_pc, .ref b_in, .int m_givL, .int m_tak, .ref b_out, .int m_put, .int m_st, .int m_cu, .int m_va, .int m_sp, .int m_un, .ref b_k, .int m_kc, .int m_kn, .int m_by, .int m_kd, .int m_tg, .int m_ju])), (b_in, .inl (tc 0, 1000, .inl (upd m_inL m_givL.toNatClampNeg (((j_lshr x1 (56 - (8 * k_28))) &&& 255).toInt32))))] H := hP
              have hD : va_D A [(b_x, .inr (9, [.ref b_row, .ref b_part, .ref b_mem, .ref b_mrk, .ref b_sf, .ref b_ss, .ref b_sr, .int m_on, .ref b_h, .int m_hc, .ref b_r, .int m_pc, .ref b_in, .int m_givL, .int m_tak, .ref b_out, .int m_put, .int m_st, .int m_cu, .int m_va, .int m_sp, .int m_un, .ref b_k, .int m_kc, .int m_kn, .int m_by, .int m_kd, .int m_tg, .int m_ju])), (b_in, .inl (tc 0, 1000, .inl (upd m_inL m_givL.toNatClampNeg (((j_lshr x1 (56 - (8 * k_28))) &&& 255).toInt32))))] := hD
              refine lv_aload_n hx hb d_M_input_58 rfl (lv_at hl 1 rfl) ?_
              refine lv_dup hx hb d_M_input_59 rfl ?_
              refine va_get (D := D) (ci := 9) (v := .int m_givL) (C := "StepMachineModel") (T := TX9) (N := 29) hx hb hts inU_9 hown hK hP 0 rfl rfl 13 (by decide) (hts _ a_646) (fun _ h9 => h9) rfl d_M_input_60 ?_
              refine lv_iconst (v := 1) hx hb d_M_input_63 (by decide) ?_
              refine lv_iadd hx hb d_M_input_64 ?_
              refine va_put (D := D) (ci := 9) (v := .int (m_givL + 1)) (ty := .int) (C := "StepMachineModel") (T := TX9) (N := 29) hx hb hts inU_9 tyX9 tyX9_ok nmX9 hown hK hP hD hS 0 rfl rfl 13 (by decide) (hts _ a_646) (fun _ h9 => h9) rfl (by decide +kernel) rfl rfl (Nat.le_of_ble_eq_true rfl) d_M_input_65 (fun H locs hP hD hS => ?_)
              have hP : va_P D vwCl [(b_x, .inr (9, [.ref b_row, .ref b_part, .ref b_mem, .ref b_mrk, .ref b_sf, .ref b_ss, .ref b_sr, .int m_on, .ref b_h, .int m_hc, .ref b_r, .int m_pc, .ref b_in, .int (m_givL + 1), .int m_tak, .ref b_out, .int m_put, .int m_st, .int m_cu, .int m_va, .int m_sp, .int m_un, .ref b_k, .int m_kc, .int m_kn, .int m_by, .int m_kd, .int m_tg, .int m_ju])), (b_in, .inl (tc 0, 1000, .inl (upd m_inL m_givL.toNatClampNeg (((j_lshr x1 (56 - (8 * k_28))) &&& 255).toInt32))))] H := hP
              have hD : va_D A [(b_x, .inr (9, [.ref b_row, .ref b_part, .ref b_mem, .ref b_mrk, .ref b_sf, .ref b_ss, .ref b_sr, .int m_on, .ref b_h, .int m_hc, .ref b_r, .int m_pc, .ref b_in, .int (m_givL + 1), .int m_tak, .ref b_out, .int m_put, .int m_st, .int m_cu, .int m_va, .int m_sp, .int m_un, .ref b_k, .int m_kc, .int m_kn, .int m_by, .int m_kd, .int m_tg, .int m_ju])), (b_in, .inl (tc 0, 1000, .inl (upd m_inL m_givL.toNatClampNeg (((j_lshr x1 (56 - (8 * k_28))) &&& 255).toInt32))))] := hD
              refine lv_iinc (v := (k_28 + 1)) (lv' := [(4, .int (k_28 + 1)), (0, .ref b_x), (1, .int x0), (2, .long x1)]) hx hb d_M_input_68 hl (k := 0) rfl rfl (by decide) rfl (fun ls hl => ?_)
              refine lv_goto (tgt := 28) hx hb d_M_input_71 (by decide) ?_
              exact ih_28 (k_28 + 1) (upd m_inL m_givL.toNatClampNeg (((j_lshr x1 (56 - (8 * k_28))) &&& 255).toInt32)) (m_givL + 1) _ _ ls (st_nn c_31 hq) (inp_step c_2 c_8 hg hq c_31) (ms_step c_31 hm_28) (by have h := hX_28; rw [mF_StepMachineModel_input_L28, if_neg c_31] at h; exact h) hP hD hS (lv_sub hl [0, 1, 2, 3] rfl)
        obtain ⟨q_28, e_28⟩ : ∃ z, z = (mF_StepMachineModel_input_L28 x0 x1 ((x0.toInt - (0 : Int32).toInt).toNat + 1) (0 : Int32) m_in m_giv) := ⟨_, rfl⟩
        refine loop_28 ((x0.toInt - (0 : Int32).toInt).toNat + 1) (0 : Int32) m_in m_giv _ _ ls (by decide) (inp_base c_2 c_8 c_20 hp0) (Nat.lt_succ_self _) ?_ hP hD hS (lv_sub hl [0, 1, 2, 3] rfl)
        rw [← e_28]
        intro H locs ls hq hg hP hD hS hl
        have hP : va_P D vwCl [(b_x, .inr (9, [.ref b_row, .ref b_part, .ref b_mem, .ref b_mrk, .ref b_sf, .ref b_ss, .ref b_sr, .int m_on, .ref b_h, .int m_hc, .ref b_r, .int m_pc, .ref b_in, .int q_28.2.2, .int m_tak, .ref b_out, .int m_put, .int m_st, .int m_cu, .int m_va, .int m_sp, .int m_un, .ref b_k, .int m_kc, .int m_kn, .int m_by, .int m_kd, .int m_tg, .int m_ju])), (b_in, .inl (tc 0, 1000, .inl q_28.2.1))] H := hP
        have hD : va_D A [(b_x, .inr (9, [.ref b_row, .ref b_part, .ref b_mem, .ref b_mrk, .ref b_sf, .ref b_ss, .ref b_sr, .int m_on, .ref b_h, .int m_hc, .ref b_r, .int m_pc, .ref b_in, .int q_28.2.2, .int m_tak, .ref b_out, .int m_put, .int m_st, .int m_cu, .int m_va, .int m_sp, .int m_un, .ref b_k, .int m_kc, .int m_kn, .int m_by, .int m_kd, .int m_tg, .int m_ju])), (b_in, .inl (tc 0, 1000, .inl q_28.2.1))] := hD
        have hl : lv_has ls 5 [(4, .int q_28.1), (0, .ref b_x), (1, .int x0), (2, .long x1)] := hl
        refine lv_aload_n hx hb d_M_input_74 rfl (lv_at hl 1 rfl) ?_
        obtain ⟨q_75, e_75⟩ : ∃ z, z = mF_StepMachineModel_forget := ⟨_, rfl⟩
        refine wVv (As := []) (rest := []) e_75 ⟨hx, hb, hml, hown, hts⟩ (mc_StepMachineModel_forget l D tc tb z0 _ b_x b_row b_part b_mem b_mrk b_sf b_ss b_sr b_h b_r b_in b_out b_k m_on m_hc m_pc q_28.2.2 m_tak m_put m_st m_cu m_va m_sp m_un m_kc m_kn m_by m_kd m_tg m_ju) (cwV 0 hts (goodV a_697 a_698 a_917 a_10 a_699) rfl rfl rfl hv_M_forget ⟨Nat.le_of_ble_eq_true rfl, Nat.le_of_ble_eq_true rfl⟩) hP hD hS hA hZ hK hB [0] rfl (by decide) (fun _ => rfl) rfl rfl rfl hl.1 rfl (Nat.le_of_ble_eq_true rfl) d_M_input_75 ⟨Nat.zero_le _, Nat.zero_le _⟩ (fun H locs hP hD hS => ?_)
        have hP : va_P D vwCl [(b_x, .inr (9, [.ref b_row, .ref b_part, .ref b_mem, .ref b_mrk, .ref b_sf, .ref b_ss, .ref b_sr, .int m_on, .ref b_h, .int m_hc, .ref b_r, .int m_pc, .ref b_in, .int q_28.2.2, .int m_tak, .ref b_out, .int m_put, .int m_st, .int m_cu, .int m_va, .int m_sp, .int m_un, .ref b_k, .int q_75, .int m_kn, .int m_by, .int m_kd, .int m_tg, .int m_ju])), (b_in, .inl (tc 0, 1000, .inl q_28.2.1))] H := hP
        have hD : va_D A [(b_x, .inr (9, [.ref b_row, .ref b_part, .ref b_mem, .ref b_mrk, .ref b_sf, .ref b_ss, .ref b_sr, .int m_on, .ref b_h, .int m_hc, .ref b_r, .int m_pc, .ref b_in, .int q_28.2.2, .int m_tak, .ref b_out, .int m_put, .int m_st, .int m_cu, .int m_va, .int m_sp, .int m_un, .ref b_k, .int q_75, .int m_kn, .int m_by, .int m_kd, .int m_tg, .int m_ju])), (b_in, .inl (tc 0, 1000, .inl q_28.2.1))] := hD
        refine lv_iconst (v := 1) hx hb d_M_input_78 (by decide) ?_
        exact W.zret (v := 1) hx hb hr rfl (fun t ht hW => ⟨⟨_, (q_28.2.1, q_28.2.2, q_75), rfl, by rw [mF_StepMachineModel_input, if_neg c_2, if_neg c_8, if_pos c_20, ← e_28, mF_StepMachineModel_input_1, ← e_75, mF_StepMachineModel_input_2], by rw [ht]; exact hP, va_K.moved hW.alike hK, hD⟩, hS.F ht⟩) hS.2.2 d_M_input_79
      · skip
        refine lv_iconst (v := 0) hx hb d_M_input_23 (by decide) ?_
        exact W.zret (v := 0) hx hb hr rfl (fun t ht hW => ⟨⟨_, (m_in, m_giv, m_kc), rfl, by rw [mF_StepMachineModel_input, if_neg c_2, if_neg c_8, if_neg c_20], by rw [ht]; exact hP, va_K.moved hW.alike hK, hD⟩, hS.F ht⟩) hS.2.2 d_M_input_24
def mF_StepMachineModel_haltAt_L2 (m_hc : Int32) (m_hp : Nat → Int32) (x0 : Int32) : Nat → Int32 → Int32
  | 0, k_2 => 0
  | n_ + 1, k_2 => (if m_hc ≤ k_2 then (-1) else (if (m_hp k_2.toNatClampNeg) = x0 then k_2 else ((mF_StepMachineModel_haltAt_L2 m_hc m_hp x0 n_) (k_2 + 1))))
def mF_StepMachineModel_haltAt (m_hc : Int32) (m_hp : Nat → Int32) (x0 : Int32) : Int32 := (mF_StepMachineModel_haltAt_L2 m_hc m_hp x0 ((m_hc.toInt - (0 : Int32).toInt).toNat + 1) (0 : Int32))
set_option maxHeartbeats 4000000 in
set_option maxRecDepth 100000 in
theorem mc_StepMachineModel_haltAt (l : Launch) (D : va_G) (tc : Nat → ClassId) (tb : Nat → Nat) (z0 : Nat) (b_x b_h b_row b_part b_mem b_mrk b_sf b_ss b_sr b_r b_in b_out b_k : Nat) (m_on : Int32) (m_hc : Int32) (m_pc : Int32) (m_giv : Int32) (m_tak : Int32) (m_put : Int32) (m_st : Int32) (m_cu : Int32) (m_va : Int32) (m_sp : Int32) (m_un : Int32) (m_kc : Int32) (m_kn : Int32) (m_by : Int32) (m_kd : Int32) (m_tg : Int32) (m_ju : Int32) (m_hp : Nat → Int32) (x0 : Int32) (hc0 : 0 ≤ m_hc.toInt ∧ m_hc.toInt ≤ 8) : Met l y_M_haltAt (wM y_M_haltAt b_M_haltAt 3 (some .int)) ({ frames := 0, cells := 0, slots := 0, locals := 0 }) (va_Pc [.ref b_x, .int x0] (Pr D tc tb z0 [(b_x, .inr (9, [.ref b_row, .ref b_part, .ref b_mem, .ref b_mrk, .ref b_sf, .ref b_ss, .ref b_sr, .int m_on, .ref b_h, .int m_hc, .ref b_r, .int m_pc, .ref b_in, .int m_giv, .int m_tak, .ref b_out, .int m_put, .int m_st, .int m_cu, .int m_va, .int m_sp, .int m_un, .ref b_k, .int m_kc, .int m_kn, .int m_by, .int m_kd, .int m_tg, .int m_ju])), (b_h, .inl (tc 0, 8, .inl m_hp))])) (vp_Si (fun r => r = (mF_StepMachineModel_haltAt m_hc m_hp x0))) 0 0 (fun _ => False) := by
  refine Met.ofW (cc := b_M_haltAt) (maxL := 3) (ret := (some .int)) (by decide) rfl ?_
  intro p e s m args below meth c s₁ B hml hv
  obtain ⟨rfl, hP, hK, hB⟩ := hv
  have hx := B.exec
  have hb := B.bytes
  have hr := B.returns
  have hts : ∀ w ∈ wALL, w.before _ s = true := fun w h => atoms_spec (ws := (wM y_M_haltAt b_M_haltAt 3 (some .int))) B.pre w (List.mem_cons_of_mem _ h)
  have hown : s.vm.findClass "StepMachineModel" = some m.cls := findClass_of_methodNamed B.named
  have hlocks := B.notSynchronized
  have hl := lv_entry ([.ref b_x, .int x0]) (n := 3) (Nat.le_of_ble_eq_true rfl)
  rw [lg_entry_eq]
  generalize (lg_sl ([.ref b_x, .int x0]) ++ List.replicate (3 - (lg_sl ([.ref b_x, .int x0])).length) Slot.unset).toArray = ls at hl ⊢
  have hl : lv_has ls 3 [(0, .ref b_x), (1, .int x0)] := hl
  refine lv_iconst (v := 0) hx hb d_M_haltAt_0 (by decide) ?_
  refine lv_istore_n (lv' := [(2, .int 0), (0, .ref b_x), (1, .int x0)]) hx hb d_M_haltAt_1 rfl hl (by decide) rfl (fun ls hl => ?_)
  have loop_2 : ∀ (n_2 : Nat) (k_2 : Int32) (ls : Array Slot), (0 ≤ k_2.toInt) → (m_hc.toInt - k_2.toInt).toNat < n_2 → (mF_StepMachineModel_haltAt_L2 m_hc m_hp x0 n_2 k_2) = (mF_StepMachineModel_haltAt m_hc m_hp x0) → lv_has ls 3 [(2, .int k_2), (0, .ref b_x), (1, .int x0)] → W p l e (headSpec (wM y_M_haltAt b_M_haltAt 3 (some .int)) ({ frames := 0, cells := 0, slots := 0, locals := 0 })).room s m ([.ref b_x, .int x0]).toArray below meth c s.heap [] 0 0 (MQ below (vp_Si (fun r => r = (mF_StepMachineModel_haltAt m_hc m_hp x0))) ([.ref b_x, .int x0]).toArray s 0 0 (fun _ => False)) (F0 m 2 ls []) := by
    intro n_2
    induction n_2 with
    | zero =>
      intro k_2 ls hq hm
      exact absurd hm (Nat.not_lt_zero _)
    | succ n_2 ih_2 =>
      intro k_2 ls hq hm_2 hF_2 hl
      refine lv_iload_n hx hb d_M_haltAt_2 rfl (lv_at hl 0 rfl) ?_
      refine lv_aload_n hx hb d_M_haltAt_3 rfl (lv_at hl 1 rfl) ?_
      refine va_get (D := D) (ci := 9) (v := .int m_hc) (C := "StepMachineModel") (T := TX9) (N := 29) hx hb hts inU_9 hown hK hP 0 rfl rfl 9 (by decide) (hts _ a_642) (fun _ h9 => h9) rfl d_M_haltAt_4 ?_
      refine lv_icmp_ge (tgt := 28) hx hb d_M_haltAt_7 (by decide) (fun c_7 => ?_) (fun c_7 => ?_)
      · skip
        refine lv_iconst (v := (-1)) hx hb d_M_haltAt_28 (by decide) ?_
        exact W.iret (v := (-1)) hx hb hr (fun t ht hW => ⟨_, rfl, by rw [← hF_2, mF_StepMachineModel_haltAt_L2, if_pos c_7], ht⟩) (fun q h => by cases h) d_M_haltAt_29
      · skip
        refine lv_aload_n hx hb d_M_haltAt_10 rfl (lv_at hl 1 rfl) ?_
        refine va_get (D := D) (ci := 9) (v := .ref b_h) (C := "StepMachineModel") (T := TX9) (N := 29) hx hb hts inU_9 hown hK hP 0 rfl rfl 8 (by decide) (hts _ a_641) (fun _ h9 => h9) rfl d_M_haltAt_11 ?_
        refine lv_iload_n hx hb d_M_haltAt_14 rfl (lv_at hl 0 rfl) ?_
        refine va_iald hx hb hK hP 1 0 rfl rfl (in_k hq c_7 hc0.2) d_M_haltAt_15 ?_
        refine lv_iload_n hx hb d_M_haltAt_16 rfl (lv_at hl 2 rfl) ?_
        refine lv_icmp_ne (tgt := 22) hx hb d_M_haltAt_17 (by decide) (fun c_17 => ?_) (fun c_17 => ?_)
        · skip
          refine lv_iinc (v := (k_2 + 1)) (lv' := [(2, .int (k_2 + 1)), (0, .ref b_x), (1, .int x0)]) hx hb d_M_haltAt_22 hl (k := 0) rfl rfl (by decide) rfl (fun ls hl => ?_)
          refine lv_goto (tgt := 2) hx hb d_M_haltAt_25 (by decide) ?_
          exact ih_2 (k_2 + 1) ls (st_nn c_7 hq) (ms_step c_7 hm_2) (by rw [← hF_2, mF_StepMachineModel_haltAt_L2, if_neg c_7, if_neg c_17]) (lv_sub hl [0, 1, 2] rfl)
        · skip
          refine lv_iload_n hx hb d_M_haltAt_20 rfl (lv_at hl 0 rfl) ?_
          exact W.iret (v := k_2) hx hb hr (fun t ht hW => ⟨_, rfl, by rw [← hF_2, mF_StepMachineModel_haltAt_L2, if_neg c_7, if_pos c_17], ht⟩) (fun q h => by cases h) d_M_haltAt_21
  exact loop_2 ((m_hc.toInt - (0 : Int32).toInt).toNat + 1) (0 : Int32) ls (by decide) (Nat.lt_succ_self _) (by rw [mF_StepMachineModel_haltAt]) (lv_sub hl [0, 1, 2] rfl)
theorem ha_rng (hp : Nat → Int32) (c x : Int32) : ∀ (n : Nat) (k : Int32), 0 ≤ k.toInt → (c.toInt - k.toInt).toNat < n → mF_StepMachineModel_haltAt_L2 c hp x n k = -1 ∨ (0 ≤ (mF_StepMachineModel_haltAt_L2 c hp x n k).toInt ∧ (mF_StepMachineModel_haltAt_L2 c hp x n k).toInt < c.toInt) := by
  intro n
  induction n with
  | zero => intro k _ h; exact absurd h (Nat.not_lt_zero _)
  | succ n ih =>
    intro k hq hm
    rw [mF_StepMachineModel_haltAt_L2]
    split
    · exact Or.inl rfl
    · rename_i h
      split
      · exact Or.inr ⟨hq, ob_nle h⟩
      · exact ih _ (st_nn h hq) (ms_step h hm)
theorem ha_in {hp : Nat → Int32} {c x : Int32} (hc0 : 0 ≤ c.toInt ∧ c.toInt ≤ 8) (h : ¬ mF_StepMachineModel_haltAt c hp x = -1) : vp_in (mF_StepMachineModel_haltAt c hp x) 8 ∧ vp_in (c - 1) 8 := by
  have key : mF_StepMachineModel_haltAt c hp x = -1 ∨ (0 ≤ (mF_StepMachineModel_haltAt c hp x).toInt ∧ (mF_StepMachineModel_haltAt c hp x).toInt < c.toInt) := ha_rng hp c x _ 0 (by decide) (Nat.lt_succ_self _)
  rcases key with h1 | h1
  · exact absurd h1 h
  · refine ⟨ti_in h1.1 (by have := h1.2; omega), ?_⟩
    have h2 := h1.1
    have h3 := h1.2
    exact ti_in (by rw [ti_sub (by rw [e_1]; omega) (by rw [e_1]; omega), e_1]; omega) (by rw [ti_sub (by rw [e_1]; omega) (by rw [e_1]; omega), e_1]; omega)
theorem in_hc {c : Int32} (hc0 : 0 ≤ c.toInt ∧ c.toInt ≤ 8) (h : ¬ c = 8) : vp_in c 8 := by
  have : c.toInt ≠ 8 := fun q => h (Int32.toInt_inj.mp (by rw [q, e_8]))
  exact ti_in hc0.1 (by omega)
def mF_StepMachineModel_halt_1 (m_hc : Int32) (m_hp : Nat → Int32) (x0 : Int32) (q_100 : Int32) : Int32 × (Nat → Int32) × Int32 × Int32 := (1, (upd m_hp m_hc.toNatClampNeg x0), (m_hc + 1), q_100)
def mF_StepMachineModel_halt_2 (m_hc : Int32) (m_hp : Nat → Int32) (x0 : Int32) (q_100 : Int32) : Int32 × (Nat → Int32) × Int32 × Int32 := (1, (upd m_hp (mF_StepMachineModel_haltAt m_hc m_hp x0).toNatClampNeg (m_hp (m_hc - 1).toNatClampNeg)), (m_hc - 1), q_100)
def mF_StepMachineModel_halt_3 (m_hc : Int32) (m_hp : Nat → Int32) (x0 : Int32) (q_100 : Int32) : Int32 × (Nat → Int32) × Int32 × Int32 := (1, (upd m_hp m_hc.toNatClampNeg x0), (m_hc + 1), q_100)
def mF_StepMachineModel_halt (m_hc : Int32) (m_kc : Int32) (m_hp : Nat → Int32) (x0 : Int32) (x1 : Int32) : Int32 × (Nat → Int32) × Int32 × Int32 := (if x0 < 0 then (0, m_hp, m_hc, m_kc) else (if (x0 - x0 / 2 * 2) = 0 then (if (mF_StepMachineModel_haltAt m_hc m_hp x0) = (-1) then (if x1 = 0 then (0, m_hp, m_hc, m_kc) else (if m_hc = 8 then (0, m_hp, m_hc, m_kc) else (mF_StepMachineModel_halt_1 m_hc m_hp x0 mF_StepMachineModel_forget))) else (if x1 = 1 then (0, m_hp, m_hc, m_kc) else (if x1 = 0 then (mF_StepMachineModel_halt_2 m_hc m_hp x0 mF_StepMachineModel_forget) else (if m_hc = 8 then (0, m_hp, m_hc, m_kc) else (mF_StepMachineModel_halt_3 m_hc m_hp x0 mF_StepMachineModel_forget))))) else (0, m_hp, m_hc, m_kc)))
set_option maxHeartbeats 4000000 in
set_option maxRecDepth 100000 in
theorem mc_StepMachineModel_halt (l : Launch) (D : va_G) (tc : Nat → ClassId) (tb : Nat → Nat) (z0 : Nat) (sz : Nat) (b_x b_h b_row b_part b_mem b_mrk b_sf b_ss b_sr b_r b_in b_out b_k : Nat) (m_on : Int32) (m_hc : Int32) (m_pc : Int32) (m_giv : Int32) (m_tak : Int32) (m_put : Int32) (m_st : Int32) (m_cu : Int32) (m_va : Int32) (m_sp : Int32) (m_un : Int32) (m_kc : Int32) (m_kn : Int32) (m_by : Int32) (m_kd : Int32) (m_tg : Int32) (m_ju : Int32) (m_hp : Nat → Int32) (x0 : Int32) (x1 : Int32) (hc0 : 0 ≤ m_hc.toInt ∧ m_hc.toInt ≤ 8) : Met l y_M_halt (wM y_M_halt b_M_halt 4 (some .boolean)) ({ frames := 1, cells := 0, slots := 0, locals := 22 }) (va_Pc [.ref b_x, .int x0, .int x1] (Pw D tc tb z0 [(b_x, .inr (9, [.ref b_row, .ref b_part, .ref b_mem, .ref b_mrk, .ref b_sf, .ref b_ss, .ref b_sr, .int m_on, .ref b_h, .int m_hc, .ref b_r, .int m_pc, .ref b_in, .int m_giv, .int m_tak, .ref b_out, .int m_put, .int m_st, .int m_cu, .int m_va, .int m_sp, .int m_un, .ref b_k, .int m_kc, .int m_kn, .int m_by, .int m_kd, .int m_tg, .int m_ju])), (b_h, .inl (tc 0, 8, .inl m_hp))] sz)) (va_Qi (fun (r : Int32) (u : (Nat → Int32) × Int32 × Int32) => (r, u) = (mF_StepMachineModel_halt m_hc m_kc m_hp x0 x1)) (Bw D tc (va_A [(b_x, .inr (9, [.ref b_row, .ref b_part, .ref b_mem, .ref b_mrk, .ref b_sf, .ref b_ss, .ref b_sr, .int m_on, .ref b_h, .int m_hc, .ref b_r, .int m_pc, .ref b_in, .int m_giv, .int m_tak, .ref b_out, .int m_put, .int m_st, .int m_cu, .int m_va, .int m_sp, .int m_un, .ref b_k, .int m_kc, .int m_kn, .int m_by, .int m_kd, .int m_tg, .int m_ju])), (b_h, .inl (tc 0, 8, .inl m_hp))] sz) (fun u => [(b_x, .inr (9, [.ref b_row, .ref b_part, .ref b_mem, .ref b_mrk, .ref b_sf, .ref b_ss, .ref b_sr, .int m_on, .ref b_h, .int u.2.1, .ref b_r, .int m_pc, .ref b_in, .int m_giv, .int m_tak, .ref b_out, .int m_put, .int m_st, .int m_cu, .int m_va, .int m_sp, .int m_un, .ref b_k, .int u.2.2, .int m_kn, .int m_by, .int m_kd, .int m_tg, .int m_ju])), (b_h, .inl (tc 0, 8, .inl u.1))])) (va_A [(b_x, .inr (9, [.ref b_row, .ref b_part, .ref b_mem, .ref b_mrk, .ref b_sf, .ref b_ss, .ref b_sr, .int m_on, .ref b_h, .int m_hc, .ref b_r, .int m_pc, .ref b_in, .int m_giv, .int m_tak, .ref b_out, .int m_put, .int m_st, .int m_cu, .int m_va, .int m_sp, .int m_un, .ref b_k, .int m_kc, .int m_kn, .int m_by, .int m_kd, .int m_tg, .int m_ju])), (b_h, .inl (tc 0, 8, .inl m_hp))] sz)) 0 0 (va_A [(b_x, .inr (9, [.ref b_row, .ref b_part, .ref b_mem, .ref b_mrk, .ref b_sf, .ref b_ss, .ref b_sr, .int m_on, .ref b_h, .int m_hc, .ref b_r, .int m_pc, .ref b_in, .int m_giv, .int m_tak, .ref b_out, .int m_put, .int m_st, .int m_cu, .int m_va, .int m_sp, .int m_un, .ref b_k, .int m_kc, .int m_kn, .int m_by, .int m_kd, .int m_tg, .int m_ju])), (b_h, .inl (tc 0, 8, .inl m_hp))] sz) := by
  refine Met.ofW (cc := b_M_halt) (maxL := 4) (ret := (some .boolean)) (by decide) rfl ?_
  intro p e s m args below meth c s₁ B hml hv
  obtain ⟨rfl, hsz, hP, hK, hB, hD0, hZ0⟩ := hv
  have hx := B.exec
  have hb := B.bytes
  have hr := B.returns
  have hts : ∀ w ∈ wALL, w.before _ s = true := fun w h => atoms_spec (ws := (wM y_M_halt b_M_halt 4 (some .boolean))) B.pre w (List.mem_cons_of_mem _ h)
  have hown : s.vm.findClass "StepMachineModel" = some m.cls := findClass_of_methodNamed B.named
  have hlocks := B.notSynchronized
  subst hsz
  have hD := hD0.self (sz := s.heap.size)
  generalize hAe : va_A [(b_x, .inr (9, [.ref b_row, .ref b_part, .ref b_mem, .ref b_mrk, .ref b_sf, .ref b_ss, .ref b_sr, .int m_on, .ref b_h, .int m_hc, .ref b_r, .int m_pc, .ref b_in, .int m_giv, .int m_tak, .ref b_out, .int m_put, .int m_st, .int m_cu, .int m_va, .int m_sp, .int m_un, .ref b_k, .int m_kc, .int m_kn, .int m_by, .int m_kd, .int m_tg, .int m_ju])), (b_h, .inl (tc 0, 8, .inl m_hp))] s.heap.size = A at hD ⊢
  have hZ : ∀ q : Nat, A q → z0 ≤ q := by rw [← hAe]; exact hZ0
  have hA : ∀ q : Nat, s.heap.size ≤ q → A q := fun q h => by rw [← hAe]; exact Or.inr h
  have hS : va_S A s.heap s.heap [] := va_S.rf
  have hl := lv_entry ([.ref b_x, .int x0, .int x1]) (n := 4) (Nat.le_of_ble_eq_true rfl)
  rw [lg_entry_eq]
  generalize (lg_sl ([.ref b_x, .int x0, .int x1]) ++ List.replicate (4 - (lg_sl ([.ref b_x, .int x0, .int x1])).length) Slot.unset).toArray = ls at hl ⊢
  have hl : lv_has ls 4 [(0, .ref b_x), (1, .int x0), (2, .int x1)] := hl
  refine lv_iload_n hx hb d_M_halt_0 rfl (lv_at hl 1 rfl) ?_
  refine lv_if_lt (tgt := 10) hx hb d_M_halt_1 (by decide) (fun c_1 => ?_) (fun c_1 => ?_)
  · skip
    refine lv_iconst (v := 0) hx hb d_M_halt_10 (by decide) ?_
    exact W.zret (v := 0) hx hb hr rfl (fun t ht hW => ⟨⟨_, (m_hp, m_hc, m_kc), rfl, by rw [mF_StepMachineModel_halt, if_pos c_1], by rw [ht]; exact hP, va_K.moved hW.alike hK, hD⟩, hS.F ht⟩) hS.2.2 d_M_halt_11
  · skip
    refine lv_iload_n hx hb d_M_halt_4 rfl (lv_at hl 1 rfl) ?_
    refine lv_iconst (v := 2) hx hb d_M_halt_5 (by decide) ?_
    refine lv_irem hx hb d_M_halt_6 (by decide) ?_
    refine lv_if_eq (tgt := 12) hx hb d_M_halt_7 (by decide) (fun c_7 => ?_) (fun c_7 => ?_)
    · skip
      refine lv_aload_n hx hb d_M_halt_12 rfl (lv_at hl 0 rfl) ?_
      refine lv_iload_n hx hb d_M_halt_13 rfl (lv_at hl 1 rfl) ?_
      refine roVi (As := [.int x0]) (rest := []) ⟨hx, hb, hml, hown, hts⟩ (mc_StepMachineModel_haltAt l D tc tb z0 b_x b_h b_row b_part b_mem b_mrk b_sf b_ss b_sr b_r b_in b_out b_k m_on m_hc m_pc m_giv m_tak m_put m_st m_cu m_va m_sp m_un m_kc m_kn m_by m_kd m_tg m_ju m_hp x0 hc0) (cwV 1 hts (goodV a_733 a_734 a_918 a_10 a_735) rfl rfl rfl hv_M_haltAt ⟨Nat.le_of_ble_eq_true rfl, Nat.le_of_ble_eq_true rfl⟩) (hP.sub [0, 1] rfl) hK (hB.kept hS hZ) rfl rfl rfl hl.1 rfl (Nat.le_of_ble_eq_true rfl) d_M_halt_14 ⟨Nat.zero_le _, Nat.zero_le _⟩ ?_
      refine lv_istore_n (lv' := [(3, .int (mF_StepMachineModel_haltAt m_hc m_hp x0)), (0, .ref b_x), (1, .int x0), (2, .int x1)]) hx hb d_M_halt_17 rfl hl (by decide) rfl (fun ls hl => ?_)
      refine lv_iload_n hx hb d_M_halt_18 rfl (lv_at hl 3 rfl) ?_
      refine lv_iload_n hx hb d_M_halt_19 rfl (lv_at hl 0 rfl) ?_
      refine lv_iconst (v := (-1)) hx hb d_M_halt_20 (by decide) ?_
      refine lv_icmp_eq (tgt := 28) hx hb d_M_halt_21 (by decide) (fun c_21 => ?_) (fun c_21 => ?_)
      · skip
        refine lv_iconst (v := 0) hx hb d_M_halt_28 (by decide) ?_
        refine lv_icmp_eq (tgt := 45) hx hb d_M_halt_29 (by decide) (fun c_29 => ?_) (fun c_29 => ?_)
        · skip
          refine lv_iconst (v := 0) hx hb d_M_halt_45 (by decide) ?_
          exact W.zret (v := 0) hx hb hr rfl (fun t ht hW => ⟨⟨_, (m_hp, m_hc, m_kc), rfl, by rw [mF_StepMachineModel_halt, if_neg c_1, if_pos c_7, if_pos c_21, if_pos c_29], by rw [ht]; exact hP, va_K.moved hW.alike hK, hD⟩, hS.F ht⟩) hS.2.2 d_M_halt_46
        · skip
          refine lv_iload_n hx hb d_M_halt_32 rfl (lv_at hl 3 rfl) ?_
          refine lv_if_eq (tgt := 47) hx hb d_M_halt_33 (by decide) (fun c_33 => absurd c_33 c_29) (fun c_33 => ?_)
          refine lv_aload_n hx hb d_M_halt_36 rfl (lv_at hl 1 rfl) ?_
          refine va_get (D := D) (ci := 9) (v := .int m_hc) (C := "StepMachineModel") (T := TX9) (N := 29) hx hb hts inU_9 hown hK hP 0 rfl rfl 9 (by decide) (hts _ a_642) (fun _ h9 => h9) rfl d_M_halt_37 ?_
          refine lv_bipush (v := 8) hx hb d_M_halt_40 (by decide) ?_
          refine lv_icmp_ne (tgt := 47) hx hb d_M_halt_42 (by decide) (fun c_42 => ?_) (fun c_42 => ?_)
          · skip
            refine lv_iload_n hx hb d_M_halt_47 rfl (lv_at hl 3 rfl) ?_
            refine lv_if_eq (tgt := 74) hx hb d_M_halt_48 (by decide) (fun c_48 => absurd c_48 c_29) (fun c_48 => ?_)
            refine lv_aload_n hx hb d_M_halt_51 rfl (lv_at hl 1 rfl) ?_
            refine va_get (D := D) (ci := 9) (v := .ref b_h) (C := "StepMachineModel") (T := TX9) (N := 29) hx hb hts inU_9 hown hK hP 0 rfl rfl 8 (by decide) (hts _ a_641) (fun _ h9 => h9) rfl d_M_halt_52 ?_
            refine lv_aload_n hx hb d_M_halt_55 rfl (lv_at hl 1 rfl) ?_
            refine va_get (D := D) (ci := 9) (v := .int m_hc) (C := "StepMachineModel") (T := TX9) (N := 29) hx hb hts inU_9 hown hK hP 0 rfl rfl 9 (by decide) (hts _ a_642) (fun _ h9 => h9) rfl d_M_halt_56 ?_
            refine lv_iload_n hx hb d_M_halt_59 rfl (lv_at hl 2 rfl) ?_
            refine va_iast hx hb hK hP hD hS 1 0 rfl rfl (in_hc hc0 c_42) d_M_halt_60 (fun H locs hP hD hS => ?_)
            have hP : va_P D vwCl [(b_x, .inr (9, [.ref b_row, .ref b_part, .ref b_mem, .ref b_mrk, .ref b_sf, .ref b_ss, .ref b_sr, .int m_on, .ref b_h, .int m_hc, .ref b_r, .int m_pc, .ref b_in, .int m_giv, .int m_tak, .ref b_out, .int m_put, .int m_st, .int m_cu, .int m_va, .int m_sp, .int m_un, .ref b_k, .int m_kc, .int m_kn, .int m_by, .int m_kd, .int m_tg, .int m_ju])), (b_h, .inl (tc 0, 8, .inl (upd m_hp m_hc.toNatClampNeg x0)))] H := hP
            have hD : va_D A [(b_x, .inr (9, [.ref b_row, .ref b_part, .ref b_mem, .ref b_mrk, .ref b_sf, .ref b_ss, .ref b_sr, .int m_on, .ref b_h, .int m_hc, .ref b_r, .int m_pc, .ref b_in, .int m_giv, .int m_tak, .ref b_out, .int m_put, .int m_st, .int m_cu, .int m_va, .int m_sp, .int m_un, .ref b_k, .int m_kc, .int m_kn, .int m_by, .int m_kd, .int m_tg, .int m_ju])), (b_h, .inl (tc 0, 8, .inl (upd m_hp m_hc.toNatClampNeg x0)))] := hD
            refine lv_aload_n hx hb d_M_halt_61 rfl (lv_at hl 1 rfl) ?_
            refine lv_dup hx hb d_M_halt_62 rfl ?_
            refine va_get (D := D) (ci := 9) (v := .int m_hc) (C := "StepMachineModel") (T := TX9) (N := 29) hx hb hts inU_9 hown hK hP 0 rfl rfl 9 (by decide) (hts _ a_642) (fun _ h9 => h9) rfl d_M_halt_63 ?_
            refine lv_iconst (v := 1) hx hb d_M_halt_66 (by decide) ?_
            refine lv_iadd hx hb d_M_halt_67 ?_
            refine va_put (D := D) (ci := 9) (v := .int (m_hc + 1)) (ty := .int) (C := "StepMachineModel") (T := TX9) (N := 29) hx hb hts inU_9 tyX9 tyX9_ok nmX9 hown hK hP hD hS 0 rfl rfl 9 (by decide) (hts _ a_642) (fun _ h9 => h9) rfl (by decide +kernel) rfl rfl (Nat.le_of_ble_eq_true rfl) d_M_halt_68 (fun H locs hP hD hS => ?_)
            have hP : va_P D vwCl [(b_x, .inr (9, [.ref b_row, .ref b_part, .ref b_mem, .ref b_mrk, .ref b_sf, .ref b_ss, .ref b_sr, .int m_on, .ref b_h, .int (m_hc + 1), .ref b_r, .int m_pc, .ref b_in, .int m_giv, .int m_tak, .ref b_out, .int m_put, .int m_st, .int m_cu, .int m_va, .int m_sp, .int m_un, .ref b_k, .int m_kc, .int m_kn, .int m_by, .int m_kd, .int m_tg, .int m_ju])), (b_h, .inl (tc 0, 8, .inl (upd m_hp m_hc.toNatClampNeg x0)))] H := hP
            have hD : va_D A [(b_x, .inr (9, [.ref b_row, .ref b_part, .ref b_mem, .ref b_mrk, .ref b_sf, .ref b_ss, .ref b_sr, .int m_on, .ref b_h, .int (m_hc + 1), .ref b_r, .int m_pc, .ref b_in, .int m_giv, .int m_tak, .ref b_out, .int m_put, .int m_st, .int m_cu, .int m_va, .int m_sp, .int m_un, .ref b_k, .int m_kc, .int m_kn, .int m_by, .int m_kd, .int m_tg, .int m_ju])), (b_h, .inl (tc 0, 8, .inl (upd m_hp m_hc.toNatClampNeg x0)))] := hD
            refine lv_goto (tgt := 99) hx hb d_M_halt_71 (by decide) ?_
            refine lv_aload_n hx hb d_M_halt_99 rfl (lv_at hl 1 rfl) ?_
            obtain ⟨q_100, e_100⟩ : ∃ z, z = mF_StepMachineModel_forget := ⟨_, rfl⟩
            refine wVv (As := []) (rest := []) e_100 ⟨hx, hb, hml, hown, hts⟩ (mc_StepMachineModel_forget l D tc tb z0 _ b_x b_row b_part b_mem b_mrk b_sf b_ss b_sr b_h b_r b_in b_out b_k m_on (m_hc + 1) m_pc m_giv m_tak m_put m_st m_cu m_va m_sp m_un m_kc m_kn m_by m_kd m_tg m_ju) (cwV 0 hts (goodV a_697 a_698 a_917 a_10 a_699) rfl rfl rfl hv_M_forget ⟨Nat.le_of_ble_eq_true rfl, Nat.le_of_ble_eq_true rfl⟩) hP hD hS hA hZ hK hB [0] rfl (by decide) (fun _ => rfl) rfl rfl rfl hl.1 rfl (Nat.le_of_ble_eq_true rfl) d_M_halt_100 ⟨Nat.zero_le _, Nat.zero_le _⟩ (fun H locs hP hD hS => ?_)
            have hP : va_P D vwCl [(b_x, .inr (9, [.ref b_row, .ref b_part, .ref b_mem, .ref b_mrk, .ref b_sf, .ref b_ss, .ref b_sr, .int m_on, .ref b_h, .int (m_hc + 1), .ref b_r, .int m_pc, .ref b_in, .int m_giv, .int m_tak, .ref b_out, .int m_put, .int m_st, .int m_cu, .int m_va, .int m_sp, .int m_un, .ref b_k, .int q_100, .int m_kn, .int m_by, .int m_kd, .int m_tg, .int m_ju])), (b_h, .inl (tc 0, 8, .inl (upd m_hp m_hc.toNatClampNeg x0)))] H := hP
            have hD : va_D A [(b_x, .inr (9, [.ref b_row, .ref b_part, .ref b_mem, .ref b_mrk, .ref b_sf, .ref b_ss, .ref b_sr, .int m_on, .ref b_h, .int (m_hc + 1), .ref b_r, .int m_pc, .ref b_in, .int m_giv, .int m_tak, .ref b_out, .int m_put, .int m_st, .int m_cu, .int m_va, .int m_sp, .int m_un, .ref b_k, .int q_100, .int m_kn, .int m_by, .int m_kd, .int m_tg, .int m_ju])), (b_h, .inl (tc 0, 8, .inl (upd m_hp m_hc.toNatClampNeg x0)))] := hD
            refine lv_iconst (v := 1) hx hb d_M_halt_103 (by decide) ?_
            exact W.zret (v := 1) hx hb hr rfl (fun t ht hW => ⟨⟨_, ((upd m_hp m_hc.toNatClampNeg x0), (m_hc + 1), q_100), rfl, by rw [mF_StepMachineModel_halt, if_neg c_1, if_pos c_7, if_pos c_21, if_neg c_29, if_neg c_42, ← e_100, mF_StepMachineModel_halt_1], by rw [ht]; exact hP, va_K.moved hW.alike hK, hD⟩, hS.F ht⟩) hS.2.2 d_M_halt_104
          · skip
            refine lv_iconst (v := 0) hx hb d_M_halt_45 (by decide) ?_
            exact W.zret (v := 0) hx hb hr rfl (fun t ht hW => ⟨⟨_, (m_hp, m_hc, m_kc), rfl, by rw [mF_StepMachineModel_halt, if_neg c_1, if_pos c_7, if_pos c_21, if_neg c_29, if_pos c_42], by rw [ht]; exact hP, va_K.moved hW.alike hK, hD⟩, hS.F ht⟩) hS.2.2 d_M_halt_46
      · skip
        refine lv_iconst (v := 1) hx hb d_M_halt_24 (by decide) ?_
        refine lv_goto (tgt := 29) hx hb d_M_halt_25 (by decide) ?_
        refine lv_icmp_eq (tgt := 45) hx hb d_M_halt_29 (by decide) (fun c_29 => ?_) (fun c_29 => ?_)
        · skip
          refine lv_iconst (v := 0) hx hb d_M_halt_45 (by decide) ?_
          exact W.zret (v := 0) hx hb hr rfl (fun t ht hW => ⟨⟨_, (m_hp, m_hc, m_kc), rfl, by rw [mF_StepMachineModel_halt, if_neg c_1, if_pos c_7, if_neg c_21, if_pos c_29], by rw [ht]; exact hP, va_K.moved hW.alike hK, hD⟩, hS.F ht⟩) hS.2.2 d_M_halt_46
        · skip
          refine lv_iload_n hx hb d_M_halt_32 rfl (lv_at hl 3 rfl) ?_
          refine lv_if_eq (tgt := 47) hx hb d_M_halt_33 (by decide) (fun c_33 => ?_) (fun c_33 => ?_)
          · skip
            refine lv_iload_n hx hb d_M_halt_47 rfl (lv_at hl 3 rfl) ?_
            refine lv_if_eq (tgt := 74) hx hb d_M_halt_48 (by decide) (fun c_48 => ?_) (fun c_48 => absurd c_33 c_48)
            refine lv_aload_n hx hb d_M_halt_74 rfl (lv_at hl 1 rfl) ?_
            refine lv_dup hx hb d_M_halt_75 rfl ?_
            refine va_get (D := D) (ci := 9) (v := .int m_hc) (C := "StepMachineModel") (T := TX9) (N := 29) hx hb hts inU_9 hown hK hP 0 rfl rfl 9 (by decide) (hts _ a_642) (fun _ h9 => h9) rfl d_M_halt_76 ?_
            refine lv_iconst (v := 1) hx hb d_M_halt_79 (by decide) ?_
            refine lv_isub hx hb d_M_halt_80 ?_
            refine va_put (D := D) (ci := 9) (v := .int (m_hc - 1)) (ty := .int) (C := "StepMachineModel") (T := TX9) (N := 29) hx hb hts inU_9 tyX9 tyX9_ok nmX9 hown hK hP hD hS 0 rfl rfl 9 (by decide) (hts _ a_642) (fun _ h9 => h9) rfl (by decide +kernel) rfl rfl (Nat.le_of_ble_eq_true rfl) d_M_halt_81 (fun H locs hP hD hS => ?_)
            have hP : va_P D vwCl [(b_x, .inr (9, [.ref b_row, .ref b_part, .ref b_mem, .ref b_mrk, .ref b_sf, .ref b_ss, .ref b_sr, .int m_on, .ref b_h, .int (m_hc - 1), .ref b_r, .int m_pc, .ref b_in, .int m_giv, .int m_tak, .ref b_out, .int m_put, .int m_st, .int m_cu, .int m_va, .int m_sp, .int m_un, .ref b_k, .int m_kc, .int m_kn, .int m_by, .int m_kd, .int m_tg, .int m_ju])), (b_h, .inl (tc 0, 8, .inl m_hp))] H := hP
            have hD : va_D A [(b_x, .inr (9, [.ref b_row, .ref b_part, .ref b_mem, .ref b_mrk, .ref b_sf, .ref b_ss, .ref b_sr, .int m_on, .ref b_h, .int (m_hc - 1), .ref b_r, .int m_pc, .ref b_in, .int m_giv, .int m_tak, .ref b_out, .int m_put, .int m_st, .int m_cu, .int m_va, .int m_sp, .int m_un, .ref b_k, .int m_kc, .int m_kn, .int m_by, .int m_kd, .int m_tg, .int m_ju])), (b_h, .inl (tc 0, 8, .inl m_hp))] := hD
            refine lv_aload_n hx hb d_M_halt_84 rfl (lv_at hl 1 rfl) ?_
            refine va_get (D := D) (ci := 9) (v := .ref b_h) (C := "StepMachineModel") (T := TX9) (N := 29) hx hb hts inU_9 hown hK hP 0 rfl rfl 8 (by decide) (hts _ a_641) (fun _ h9 => h9) rfl d_M_halt_85 ?_
            refine lv_iload_n hx hb d_M_halt_88 rfl (lv_at hl 0 rfl) ?_
            refine lv_aload_n hx hb d_M_halt_89 rfl (lv_at hl 1 rfl) ?_
            refine va_get (D := D) (ci := 9) (v := .ref b_h) (C := "StepMachineModel") (T := TX9) (N := 29) hx hb hts inU_9 hown hK hP 0 rfl rfl 8 (by decide) (hts _ a_641) (fun _ h9 => h9) rfl d_M_halt_90 ?_
            refine lv_aload_n hx hb d_M_halt_93 rfl (lv_at hl 1 rfl) ?_
            refine va_get (D := D) (ci := 9) (v := .int (m_hc - 1)) (C := "StepMachineModel") (T := TX9) (N := 29) hx hb hts inU_9 hown hK hP 0 rfl rfl 9 (by decide) (hts _ a_642) (fun _ h9 => h9) rfl d_M_halt_94 ?_
            refine va_iald hx hb hK hP 1 0 rfl rfl (ha_in hc0 c_21).2 d_M_halt_97 ?_
            refine va_iast hx hb hK hP hD hS 1 0 rfl rfl (ha_in hc0 c_21).1 d_M_halt_98 (fun H locs hP hD hS => ?_)
            have hP : va_P D vwCl [(b_x, .inr (9, [.ref b_row, .ref b_part, .ref b_mem, .ref b_mrk, .ref b_sf, .ref b_ss, .ref b_sr, .int m_on, .ref b_h, .int (m_hc - 1), .ref b_r, .int m_pc, .ref b_in, .int m_giv, .int m_tak, .ref b_out, .int m_put, .int m_st, .int m_cu, .int m_va, .int m_sp, .int m_un, .ref b_k, .int m_kc, .int m_kn, .int m_by, .int m_kd, .int m_tg, .int m_ju])), (b_h, .inl (tc 0, 8, .inl (upd m_hp (mF_StepMachineModel_haltAt m_hc m_hp x0).toNatClampNeg (m_hp (m_hc - 1).toNatClampNeg))))] H := hP
            have hD : va_D A [(b_x, .inr (9, [.ref b_row, .ref b_part, .ref b_mem, .ref b_mrk, .ref b_sf, .ref b_ss, .ref b_sr, .int m_on, .ref b_h, .int (m_hc - 1), .ref b_r, .int m_pc, .ref b_in, .int m_giv, .int m_tak, .ref b_out, .int m_put, .int m_st, .int m_cu, .int m_va, .int m_sp, .int m_un, .ref b_k, .int m_kc, .int m_kn, .int m_by, .int m_kd, .int m_tg, .int m_ju])), (b_h, .inl (tc 0, 8, .inl (upd m_hp (mF_StepMachineModel_haltAt m_hc m_hp x0).toNatClampNeg (m_hp (m_hc - 1).toNatClampNeg))))] := hD
            refine lv_aload_n hx hb d_M_halt_99 rfl (lv_at hl 1 rfl) ?_
            obtain ⟨q_100, e_100⟩ : ∃ z, z = mF_StepMachineModel_forget := ⟨_, rfl⟩
            refine wVv (As := []) (rest := []) e_100 ⟨hx, hb, hml, hown, hts⟩ (mc_StepMachineModel_forget l D tc tb z0 _ b_x b_row b_part b_mem b_mrk b_sf b_ss b_sr b_h b_r b_in b_out b_k m_on (m_hc - 1) m_pc m_giv m_tak m_put m_st m_cu m_va m_sp m_un m_kc m_kn m_by m_kd m_tg m_ju) (cwV 0 hts (goodV a_697 a_698 a_917 a_10 a_699) rfl rfl rfl hv_M_forget ⟨Nat.le_of_ble_eq_true rfl, Nat.le_of_ble_eq_true rfl⟩) hP hD hS hA hZ hK hB [0] rfl (by decide) (fun _ => rfl) rfl rfl rfl hl.1 rfl (Nat.le_of_ble_eq_true rfl) d_M_halt_100 ⟨Nat.zero_le _, Nat.zero_le _⟩ (fun H locs hP hD hS => ?_)
            have hP : va_P D vwCl [(b_x, .inr (9, [.ref b_row, .ref b_part, .ref b_mem, .ref b_mrk, .ref b_sf, .ref b_ss, .ref b_sr, .int m_on, .ref b_h, .int (m_hc - 1), .ref b_r, .int m_pc, .ref b_in, .int m_giv, .int m_tak, .ref b_out, .int m_put, .int m_st, .int m_cu, .int m_va, .int m_sp, .int m_un, .ref b_k, .int q_100, .int m_kn, .int m_by, .int m_kd, .int m_tg, .int m_ju])), (b_h, .inl (tc 0, 8, .inl (upd m_hp (mF_StepMachineModel_haltAt m_hc m_hp x0).toNatClampNeg (m_hp (m_hc - 1).toNatClampNeg))))] H := hP
            have hD : va_D A [(b_x, .inr (9, [.ref b_row, .ref b_part, .ref b_mem, .ref b_mrk, .ref b_sf, .ref b_ss, .ref b_sr, .int m_on, .ref b_h, .int (m_hc - 1), .ref b_r, .int m_pc, .ref b_in, .int m_giv, .int m_tak, .ref b_out, .int m_put, .int m_st, .int m_cu, .int m_va, .int m_sp, .int m_un, .ref b_k, .int q_100, .int m_kn, .int m_by, .int m_kd, .int m_tg, .int m_ju])), (b_h, .inl (tc 0, 8, .inl (upd m_hp (mF_StepMachineModel_haltAt m_hc m_hp x0).toNatClampNeg (m_hp (m_hc - 1).toNatClampNeg))))] := hD
            refine lv_iconst (v := 1) hx hb d_M_halt_103 (by decide) ?_
            exact W.zret (v := 1) hx hb hr rfl (fun t ht hW => ⟨⟨_, ((upd m_hp (mF_StepMachineModel_haltAt m_hc m_hp x0).toNatClampNeg (m_hp (m_hc - 1).toNatClampNeg)), (m_hc - 1), q_100), rfl, by rw [mF_StepMachineModel_halt, if_neg c_1, if_pos c_7, if_neg c_21, if_neg c_29, if_pos c_33, ← e_100, mF_StepMachineModel_halt_2], by rw [ht]; exact hP, va_K.moved hW.alike hK, hD⟩, hS.F ht⟩) hS.2.2 d_M_halt_104
          · skip
            refine lv_aload_n hx hb d_M_halt_36 rfl (lv_at hl 1 rfl) ?_
            refine va_get (D := D) (ci := 9) (v := .int m_hc) (C := "StepMachineModel") (T := TX9) (N := 29) hx hb hts inU_9 hown hK hP 0 rfl rfl 9 (by decide) (hts _ a_642) (fun _ h9 => h9) rfl d_M_halt_37 ?_
            refine lv_bipush (v := 8) hx hb d_M_halt_40 (by decide) ?_
            refine lv_icmp_ne (tgt := 47) hx hb d_M_halt_42 (by decide) (fun c_42 => ?_) (fun c_42 => ?_)
            · skip
              refine lv_iload_n hx hb d_M_halt_47 rfl (lv_at hl 3 rfl) ?_
              refine lv_if_eq (tgt := 74) hx hb d_M_halt_48 (by decide) (fun c_48 => absurd c_48 c_33) (fun c_48 => ?_)
              refine lv_aload_n hx hb d_M_halt_51 rfl (lv_at hl 1 rfl) ?_
              refine va_get (D := D) (ci := 9) (v := .ref b_h) (C := "StepMachineModel") (T := TX9) (N := 29) hx hb hts inU_9 hown hK hP 0 rfl rfl 8 (by decide) (hts _ a_641) (fun _ h9 => h9) rfl d_M_halt_52 ?_
              refine lv_aload_n hx hb d_M_halt_55 rfl (lv_at hl 1 rfl) ?_
              refine va_get (D := D) (ci := 9) (v := .int m_hc) (C := "StepMachineModel") (T := TX9) (N := 29) hx hb hts inU_9 hown hK hP 0 rfl rfl 9 (by decide) (hts _ a_642) (fun _ h9 => h9) rfl d_M_halt_56 ?_
              refine lv_iload_n hx hb d_M_halt_59 rfl (lv_at hl 2 rfl) ?_
              refine va_iast hx hb hK hP hD hS 1 0 rfl rfl (in_hc hc0 c_42) d_M_halt_60 (fun H locs hP hD hS => ?_)
              have hP : va_P D vwCl [(b_x, .inr (9, [.ref b_row, .ref b_part, .ref b_mem, .ref b_mrk, .ref b_sf, .ref b_ss, .ref b_sr, .int m_on, .ref b_h, .int m_hc, .ref b_r, .int m_pc, .ref b_in, .int m_giv, .int m_tak, .ref b_out, .int m_put, .int m_st, .int m_cu, .int m_va, .int m_sp, .int m_un, .ref b_k, .int m_kc, .int m_kn, .int m_by, .int m_kd, .int m_tg, .int m_ju])), (b_h, .inl (tc 0, 8, .inl (upd m_hp m_hc.toNatClampNeg x0)))] H := hP
              have hD : va_D A [(b_x, .inr (9, [.ref b_row, .ref b_part, .ref b_mem, .ref b_mrk, .ref b_sf, .ref b_ss, .ref b_sr, .int m_on, .ref b_h, .int m_hc, .ref b_r, .int m_pc, .ref b_in, .int m_giv, .int m_tak, .ref b_out, .int m_put, .int m_st, .int m_cu, .int m_va, .int m_sp, .int m_un, .ref b_k, .int m_kc, .int m_kn, .int m_by, .int m_kd, .int m_tg, .int m_ju])), (b_h, .inl (tc 0, 8, .inl (upd m_hp m_hc.toNatClampNeg x0)))] := hD
              refine lv_aload_n hx hb d_M_halt_61 rfl (lv_at hl 1 rfl) ?_
              refine lv_dup hx hb d_M_halt_62 rfl ?_
              refine va_get (D := D) (ci := 9) (v := .int m_hc) (C := "StepMachineModel") (T := TX9) (N := 29) hx hb hts inU_9 hown hK hP 0 rfl rfl 9 (by decide) (hts _ a_642) (fun _ h9 => h9) rfl d_M_halt_63 ?_
              refine lv_iconst (v := 1) hx hb d_M_halt_66 (by decide) ?_
              refine lv_iadd hx hb d_M_halt_67 ?_
              refine va_put (D := D) (ci := 9) (v := .int (m_hc + 1)) (ty := .int) (C := "StepMachineModel") (T := TX9) (N := 29) hx hb hts inU_9 tyX9 tyX9_ok nmX9 hown hK hP hD hS 0 rfl rfl 9 (by decide) (hts _ a_642) (fun _ h9 => h9) rfl (by decide +kernel) rfl rfl (Nat.le_of_ble_eq_true rfl) d_M_halt_68 (fun H locs hP hD hS => ?_)
              have hP : va_P D vwCl [(b_x, .inr (9, [.ref b_row, .ref b_part, .ref b_mem, .ref b_mrk, .ref b_sf, .ref b_ss, .ref b_sr, .int m_on, .ref b_h, .int (m_hc + 1), .ref b_r, .int m_pc, .ref b_in, .int m_giv, .int m_tak, .ref b_out, .int m_put, .int m_st, .int m_cu, .int m_va, .int m_sp, .int m_un, .ref b_k, .int m_kc, .int m_kn, .int m_by, .int m_kd, .int m_tg, .int m_ju])), (b_h, .inl (tc 0, 8, .inl (upd m_hp m_hc.toNatClampNeg x0)))] H := hP
              have hD : va_D A [(b_x, .inr (9, [.ref b_row, .ref b_part, .ref b_mem, .ref b_mrk, .ref b_sf, .ref b_ss, .ref b_sr, .int m_on, .ref b_h, .int (m_hc + 1), .ref b_r, .int m_pc, .ref b_in, .int m_giv, .int m_tak, .ref b_out, .int m_put, .int m_st, .int m_cu, .int m_va, .int m_sp, .int m_un, .ref b_k, .int m_kc, .int m_kn, .int m_by, .int m_kd, .int m_tg, .int m_ju])), (b_h, .inl (tc 0, 8, .inl (upd m_hp m_hc.toNatClampNeg x0)))] := hD
              refine lv_goto (tgt := 99) hx hb d_M_halt_71 (by decide) ?_
              refine lv_aload_n hx hb d_M_halt_99 rfl (lv_at hl 1 rfl) ?_
              obtain ⟨q_100, e_100⟩ : ∃ z, z = mF_StepMachineModel_forget := ⟨_, rfl⟩
              refine wVv (As := []) (rest := []) e_100 ⟨hx, hb, hml, hown, hts⟩ (mc_StepMachineModel_forget l D tc tb z0 _ b_x b_row b_part b_mem b_mrk b_sf b_ss b_sr b_h b_r b_in b_out b_k m_on (m_hc + 1) m_pc m_giv m_tak m_put m_st m_cu m_va m_sp m_un m_kc m_kn m_by m_kd m_tg m_ju) (cwV 0 hts (goodV a_697 a_698 a_917 a_10 a_699) rfl rfl rfl hv_M_forget ⟨Nat.le_of_ble_eq_true rfl, Nat.le_of_ble_eq_true rfl⟩) hP hD hS hA hZ hK hB [0] rfl (by decide) (fun _ => rfl) rfl rfl rfl hl.1 rfl (Nat.le_of_ble_eq_true rfl) d_M_halt_100 ⟨Nat.zero_le _, Nat.zero_le _⟩ (fun H locs hP hD hS => ?_)
              have hP : va_P D vwCl [(b_x, .inr (9, [.ref b_row, .ref b_part, .ref b_mem, .ref b_mrk, .ref b_sf, .ref b_ss, .ref b_sr, .int m_on, .ref b_h, .int (m_hc + 1), .ref b_r, .int m_pc, .ref b_in, .int m_giv, .int m_tak, .ref b_out, .int m_put, .int m_st, .int m_cu, .int m_va, .int m_sp, .int m_un, .ref b_k, .int q_100, .int m_kn, .int m_by, .int m_kd, .int m_tg, .int m_ju])), (b_h, .inl (tc 0, 8, .inl (upd m_hp m_hc.toNatClampNeg x0)))] H := hP
              have hD : va_D A [(b_x, .inr (9, [.ref b_row, .ref b_part, .ref b_mem, .ref b_mrk, .ref b_sf, .ref b_ss, .ref b_sr, .int m_on, .ref b_h, .int (m_hc + 1), .ref b_r, .int m_pc, .ref b_in, .int m_giv, .int m_tak, .ref b_out, .int m_put, .int m_st, .int m_cu, .int m_va, .int m_sp, .int m_un, .ref b_k, .int q_100, .int m_kn, .int m_by, .int m_kd, .int m_tg, .int m_ju])), (b_h, .inl (tc 0, 8, .inl (upd m_hp m_hc.toNatClampNeg x0)))] := hD
              refine lv_iconst (v := 1) hx hb d_M_halt_103 (by decide) ?_
              exact W.zret (v := 1) hx hb hr rfl (fun t ht hW => ⟨⟨_, ((upd m_hp m_hc.toNatClampNeg x0), (m_hc + 1), q_100), rfl, by rw [mF_StepMachineModel_halt, if_neg c_1, if_pos c_7, if_neg c_21, if_neg c_29, if_neg c_33, if_neg c_42, ← e_100, mF_StepMachineModel_halt_3], by rw [ht]; exact hP, va_K.moved hW.alike hK, hD⟩, hS.F ht⟩) hS.2.2 d_M_halt_104
            · skip
              refine lv_iconst (v := 0) hx hb d_M_halt_45 (by decide) ?_
              exact W.zret (v := 0) hx hb hr rfl (fun t ht hW => ⟨⟨_, (m_hp, m_hc, m_kc), rfl, by rw [mF_StepMachineModel_halt, if_neg c_1, if_pos c_7, if_neg c_21, if_neg c_29, if_neg c_33, if_pos c_42], by rw [ht]; exact hP, va_K.moved hW.alike hK, hD⟩, hS.F ht⟩) hS.2.2 d_M_halt_46
    · skip
      refine lv_iconst (v := 0) hx hb d_M_halt_10 (by decide) ?_
      exact W.zret (v := 0) hx hb hr rfl (fun t ht hW => ⟨⟨_, (m_hp, m_hc, m_kc), rfl, by rw [mF_StepMachineModel_halt, if_neg c_1, if_neg c_7], by rw [ht]; exact hP, va_K.moved hW.alike hK, hD⟩, hS.F ht⟩) hS.2.2 d_M_halt_11
def mF_StepMachineModel_rightsOf_L18 (m_sf : Nat → Int32) (m_ss : Nat → Int32) (m_sr : Nat → Int32) (x0 : Int64) : Nat → Int32 → Int32
  | 0, k_18 => 0
  | n_ + 1, k_18 => (if 8 ≤ k_18 then 0 else (if (lg_cmp x0 ((m_sf k_18.toNatClampNeg).toInt64)) < 0 then ((mF_StepMachineModel_rightsOf_L18 m_sf m_ss m_sr x0 n_) (k_18 + 1)) else (if 0 ≤ (lg_cmp x0 (((m_sf k_18.toNatClampNeg) + (m_ss k_18.toNatClampNeg)).toInt64)) then ((mF_StepMachineModel_rightsOf_L18 m_sf m_ss m_sr x0 n_) (k_18 + 1)) else (m_sr k_18.toNatClampNeg))))
def mF_StepMachineModel_rightsOf (m_sf : Nat → Int32) (m_ss : Nat → Int32) (m_sr : Nat → Int32) (x0 : Int64) : Int32 := (if (lg_cmp x0 0) < 0 then 0 else (if (lg_cmp x0 131072) < 0 then (mF_StepMachineModel_rightsOf_L18 m_sf m_ss m_sr x0 (((8 : Int32).toInt - (0 : Int32).toInt).toNat + 1) (0 : Int32)) else 0))
set_option maxHeartbeats 4000000 in
set_option maxRecDepth 100000 in
theorem mc_StepMachineModel_rightsOf (l : Launch) (D : va_G) (tc : Nat → ClassId) (tb : Nat → Nat) (z0 : Nat) (b_x b_sf b_ss b_sr b_row b_part b_mem b_mrk b_h b_r b_in b_out b_k : Nat) (m_on : Int32) (m_hc : Int32) (m_pc : Int32) (m_giv : Int32) (m_tak : Int32) (m_put : Int32) (m_st : Int32) (m_cu : Int32) (m_va : Int32) (m_sp : Int32) (m_un : Int32) (m_kc : Int32) (m_kn : Int32) (m_by : Int32) (m_kd : Int32) (m_tg : Int32) (m_ju : Int32) (m_sf : Nat → Int32) (m_ss : Nat → Int32) (m_sr : Nat → Int32) (x0 : Int64) : Met l y_M_rightsOf (wM y_M_rightsOf b_M_rightsOf 4 (some .int)) ({ frames := 0, cells := 0, slots := 0, locals := 0 }) (va_Pc [.ref b_x, .long x0] (Pr D tc tb z0 [(b_x, .inr (9, [.ref b_row, .ref b_part, .ref b_mem, .ref b_mrk, .ref b_sf, .ref b_ss, .ref b_sr, .int m_on, .ref b_h, .int m_hc, .ref b_r, .int m_pc, .ref b_in, .int m_giv, .int m_tak, .ref b_out, .int m_put, .int m_st, .int m_cu, .int m_va, .int m_sp, .int m_un, .ref b_k, .int m_kc, .int m_kn, .int m_by, .int m_kd, .int m_tg, .int m_ju])), (b_sf, .inl (tc 0, 8, .inl m_sf)), (b_ss, .inl (tc 0, 8, .inl m_ss)), (b_sr, .inl (tc 0, 8, .inl m_sr))])) (vp_Si (fun r => r = (mF_StepMachineModel_rightsOf m_sf m_ss m_sr x0))) 0 0 (fun _ => False) := by
  refine Met.ofW (cc := b_M_rightsOf) (maxL := 4) (ret := (some .int)) (by decide) rfl ?_
  intro p e s m args below meth c s₁ B hml hv
  obtain ⟨rfl, hP, hK, hB⟩ := hv
  have hx := B.exec
  have hb := B.bytes
  have hr := B.returns
  have hts : ∀ w ∈ wALL, w.before _ s = true := fun w h => atoms_spec (ws := (wM y_M_rightsOf b_M_rightsOf 4 (some .int))) B.pre w (List.mem_cons_of_mem _ h)
  have hown : s.vm.findClass "StepMachineModel" = some m.cls := findClass_of_methodNamed B.named
  have hlocks := B.notSynchronized
  have hl := lv_entry ([.ref b_x, .long x0]) (n := 4) (Nat.le_of_ble_eq_true rfl)
  rw [lg_entry_eq]
  generalize (lg_sl ([.ref b_x, .long x0]) ++ List.replicate (4 - (lg_sl ([.ref b_x, .long x0])).length) Slot.unset).toArray = ls at hl ⊢
  have hl : lv_has ls 4 [(0, .ref b_x), (1, .long x0)] := hl
  refine lv_lload_n hx hb d_M_rightsOf_0 rfl (lv_at hl 1 rfl) ?_
  refine lv_lconst (v := 0) hx hb d_M_rightsOf_1 (by decide) ?_
  refine W.lcmp hx hb d_M_rightsOf_2 ?_
  refine lv_if_lt (tgt := 14) hx hb d_M_rightsOf_3 (by decide) (fun c_3 => ?_) (fun c_3 => ?_)
  · skip
    refine lv_iconst (v := 0) hx hb d_M_rightsOf_14 (by decide) ?_
    exact W.iret (v := 0) hx hb hr (fun t ht hW => ⟨_, rfl, by rw [mF_StepMachineModel_rightsOf, if_pos c_3], ht⟩) (fun q h => by cases h) d_M_rightsOf_15
  · skip
    refine lv_lload_n hx hb d_M_rightsOf_6 rfl (lv_at hl 1 rfl) ?_
    refine lv_ldc2 (v := 131072) hx hb hown (hts _ a_696) d_M_rightsOf_7 ?_
    refine W.lcmp hx hb d_M_rightsOf_10 ?_
    refine lv_if_lt (tgt := 16) hx hb d_M_rightsOf_11 (by decide) (fun c_11 => ?_) (fun c_11 => ?_)
    · skip
      refine lv_iconst (v := 0) hx hb d_M_rightsOf_16 (by decide) ?_
      refine lv_istore_n (lv' := [(3, .int 0), (0, .ref b_x), (1, .long x0)]) hx hb d_M_rightsOf_17 rfl hl (by decide) rfl (fun ls hl => ?_)
      have loop_18 : ∀ (n_18 : Nat) (k_18 : Int32) (ls : Array Slot), (0 ≤ k_18.toInt) → ((8 : Int32).toInt - k_18.toInt).toNat < n_18 → (mF_StepMachineModel_rightsOf_L18 m_sf m_ss m_sr x0 n_18 k_18) = (mF_StepMachineModel_rightsOf m_sf m_ss m_sr x0) → lv_has ls 4 [(3, .int k_18), (0, .ref b_x), (1, .long x0)] → W p l e (headSpec (wM y_M_rightsOf b_M_rightsOf 4 (some .int)) ({ frames := 0, cells := 0, slots := 0, locals := 0 })).room s m ([.ref b_x, .long x0]).toArray below meth c s.heap [] 0 0 (MQ below (vp_Si (fun r => r = (mF_StepMachineModel_rightsOf m_sf m_ss m_sr x0))) ([.ref b_x, .long x0]).toArray s 0 0 (fun _ => False)) (F0 m 18 ls []) := by
        intro n_18
        induction n_18 with
        | zero =>
          intro k_18 ls hq hm
          exact absurd hm (Nat.not_lt_zero _)
        | succ n_18 ih_18 =>
          intro k_18 ls hq hm_18 hF_18 hl
          refine lv_iload_n hx hb d_M_rightsOf_18 rfl (lv_at hl 0 rfl) ?_
          refine lv_bipush (v := 8) hx hb d_M_rightsOf_19 (by decide) ?_
          refine lv_icmp_ge (tgt := 68) hx hb d_M_rightsOf_21 (by decide) (fun c_21 => ?_) (fun c_21 => ?_)
          · skip
            refine lv_iconst (v := 0) hx hb d_M_rightsOf_68 (by decide) ?_
            exact W.iret (v := 0) hx hb hr (fun t ht hW => ⟨_, rfl, by rw [← hF_18, mF_StepMachineModel_rightsOf_L18, if_pos c_21], ht⟩) (fun q h => by cases h) d_M_rightsOf_69
          · skip
            refine lv_lload_n hx hb d_M_rightsOf_24 rfl (lv_at hl 2 rfl) ?_
            refine lv_aload_n hx hb d_M_rightsOf_25 rfl (lv_at hl 1 rfl) ?_
            refine va_get (D := D) (ci := 9) (v := .ref b_sf) (C := "StepMachineModel") (T := TX9) (N := 29) hx hb hts inU_9 hown hK hP 0 rfl rfl 4 (by decide) (hts _ a_637) (fun _ h9 => h9) rfl d_M_rightsOf_26 ?_
            refine lv_iload_n hx hb d_M_rightsOf_29 rfl (lv_at hl 0 rfl) ?_
            refine va_iald hx hb hK hP 1 0 rfl rfl (in_k hq c_21 (by decide)) d_M_rightsOf_30 ?_
            refine lv_i2l (v := (m_sf k_18.toNatClampNeg).toInt64) hx hb d_M_rightsOf_31 rfl ?_
            refine W.lcmp hx hb d_M_rightsOf_32 ?_
            refine lv_if_lt (tgt := 62) hx hb d_M_rightsOf_33 (by decide) (fun c_33 => ?_) (fun c_33 => ?_)
            · skip
              refine lv_iinc (v := (k_18 + 1)) (lv' := [(3, .int (k_18 + 1)), (0, .ref b_x), (1, .long x0)]) hx hb d_M_rightsOf_62 hl (k := 0) rfl rfl (by decide) rfl (fun ls hl => ?_)
              refine lv_goto (tgt := 18) hx hb d_M_rightsOf_65 (by decide) ?_
              exact ih_18 (k_18 + 1) ls (st_nn c_21 hq) (ms_step c_21 hm_18) (by rw [← hF_18, mF_StepMachineModel_rightsOf_L18, if_neg c_21, if_pos c_33]) (lv_sub hl [0, 1, 2] rfl)
            · skip
              refine lv_lload_n hx hb d_M_rightsOf_36 rfl (lv_at hl 2 rfl) ?_
              refine lv_aload_n hx hb d_M_rightsOf_37 rfl (lv_at hl 1 rfl) ?_
              refine va_get (D := D) (ci := 9) (v := .ref b_sf) (C := "StepMachineModel") (T := TX9) (N := 29) hx hb hts inU_9 hown hK hP 0 rfl rfl 4 (by decide) (hts _ a_637) (fun _ h9 => h9) rfl d_M_rightsOf_38 ?_
              refine lv_iload_n hx hb d_M_rightsOf_41 rfl (lv_at hl 0 rfl) ?_
              refine va_iald hx hb hK hP 1 0 rfl rfl (in_k hq c_21 (by decide)) d_M_rightsOf_42 ?_
              refine lv_aload_n hx hb d_M_rightsOf_43 rfl (lv_at hl 1 rfl) ?_
              refine va_get (D := D) (ci := 9) (v := .ref b_ss) (C := "StepMachineModel") (T := TX9) (N := 29) hx hb hts inU_9 hown hK hP 0 rfl rfl 5 (by decide) (hts _ a_638) (fun _ h9 => h9) rfl d_M_rightsOf_44 ?_
              refine lv_iload_n hx hb d_M_rightsOf_47 rfl (lv_at hl 0 rfl) ?_
              refine va_iald hx hb hK hP 2 0 rfl rfl (in_k hq c_21 (by decide)) d_M_rightsOf_48 ?_
              refine lv_iadd hx hb d_M_rightsOf_49 ?_
              refine lv_i2l (v := ((m_sf k_18.toNatClampNeg) + (m_ss k_18.toNatClampNeg)).toInt64) hx hb d_M_rightsOf_50 rfl ?_
              refine W.lcmp hx hb d_M_rightsOf_51 ?_
              refine lv_if_ge (tgt := 62) hx hb d_M_rightsOf_52 (by decide) (fun c_52 => ?_) (fun c_52 => ?_)
              · skip
                refine lv_iinc (v := (k_18 + 1)) (lv' := [(3, .int (k_18 + 1)), (0, .ref b_x), (1, .long x0)]) hx hb d_M_rightsOf_62 hl (k := 0) rfl rfl (by decide) rfl (fun ls hl => ?_)
                refine lv_goto (tgt := 18) hx hb d_M_rightsOf_65 (by decide) ?_
                exact ih_18 (k_18 + 1) ls (st_nn c_21 hq) (ms_step c_21 hm_18) (by rw [← hF_18, mF_StepMachineModel_rightsOf_L18, if_neg c_21, if_neg c_33, if_pos c_52]) (lv_sub hl [0, 1, 2] rfl)
              · skip
                refine lv_aload_n hx hb d_M_rightsOf_55 rfl (lv_at hl 1 rfl) ?_
                refine va_get (D := D) (ci := 9) (v := .ref b_sr) (C := "StepMachineModel") (T := TX9) (N := 29) hx hb hts inU_9 hown hK hP 0 rfl rfl 6 (by decide) (hts _ a_639) (fun _ h9 => h9) rfl d_M_rightsOf_56 ?_
                refine lv_iload_n hx hb d_M_rightsOf_59 rfl (lv_at hl 0 rfl) ?_
                refine va_iald hx hb hK hP 3 0 rfl rfl (in_k hq c_21 (by decide)) d_M_rightsOf_60 ?_
                exact W.iret (v := (m_sr k_18.toNatClampNeg)) hx hb hr (fun t ht hW => ⟨_, rfl, by rw [← hF_18, mF_StepMachineModel_rightsOf_L18, if_neg c_21, if_neg c_33, if_neg c_52], ht⟩) (fun q h => by cases h) d_M_rightsOf_61
      exact loop_18 (((8 : Int32).toInt - (0 : Int32).toInt).toNat + 1) (0 : Int32) ls (by decide) (Nat.lt_succ_self _) (by rw [mF_StepMachineModel_rightsOf, if_neg c_3, if_pos c_11]) (lv_sub hl [0, 1, 2] rfl)
    · skip
      refine lv_iconst (v := 0) hx hb d_M_rightsOf_14 (by decide) ?_
      exact W.iret (v := 0) hx hb hr (fun t ht hW => ⟨_, rfl, by rw [mF_StepMachineModel_rightsOf, if_neg c_3, if_neg c_11], ht⟩) (fun q h => by cases h) d_M_rightsOf_15
def mF_StepMachineModel_isMarked (m_mrk : Nat → Int32) (x0 : Int64) : Int32 := (if (lg_cmp x0 0) < 0 then 0 else (if 0 ≤ (lg_cmp x0 131072) then 0 else (if (lg_cmp (x0 - x0 / 2 * 2) 0) = 0 then (if (m_mrk (x0.toInt32 / 2).toNatClampNeg) = 0 then 0 else 1) else 0)))
set_option maxHeartbeats 4000000 in
set_option maxRecDepth 100000 in
theorem mc_StepMachineModel_isMarked (l : Launch) (D : va_G) (tc : Nat → ClassId) (tb : Nat → Nat) (z0 : Nat) (b_x b_mrk b_row b_part b_mem b_sf b_ss b_sr b_h b_r b_in b_out b_k : Nat) (m_on : Int32) (m_hc : Int32) (m_pc : Int32) (m_giv : Int32) (m_tak : Int32) (m_put : Int32) (m_st : Int32) (m_cu : Int32) (m_va : Int32) (m_sp : Int32) (m_un : Int32) (m_kc : Int32) (m_kn : Int32) (m_by : Int32) (m_kd : Int32) (m_tg : Int32) (m_ju : Int32) (m_mrk : Nat → Int32) (x0 : Int64) : Met l y_M_isMarked (wM y_M_isMarked b_M_isMarked 3 (some .boolean)) ({ frames := 0, cells := 0, slots := 0, locals := 0 }) (va_Pc [.ref b_x, .long x0] (Pr D tc tb z0 [(b_x, .inr (9, [.ref b_row, .ref b_part, .ref b_mem, .ref b_mrk, .ref b_sf, .ref b_ss, .ref b_sr, .int m_on, .ref b_h, .int m_hc, .ref b_r, .int m_pc, .ref b_in, .int m_giv, .int m_tak, .ref b_out, .int m_put, .int m_st, .int m_cu, .int m_va, .int m_sp, .int m_un, .ref b_k, .int m_kc, .int m_kn, .int m_by, .int m_kd, .int m_tg, .int m_ju])), (b_mrk, .inl (tc 2, 65536, .inl m_mrk))])) (vp_Si (fun r => r = (mF_StepMachineModel_isMarked m_mrk x0))) 0 0 (fun _ => False) := by
  refine Met.ofW (cc := b_M_isMarked) (maxL := 3) (ret := (some .boolean)) (by decide) rfl ?_
  intro p e s m args below meth c s₁ B hml hv
  obtain ⟨rfl, hP, hK, hB⟩ := hv
  have hx := B.exec
  have hb := B.bytes
  have hr := B.returns
  have hts : ∀ w ∈ wALL, w.before _ s = true := fun w h => atoms_spec (ws := (wM y_M_isMarked b_M_isMarked 3 (some .boolean))) B.pre w (List.mem_cons_of_mem _ h)
  have hown : s.vm.findClass "StepMachineModel" = some m.cls := findClass_of_methodNamed B.named
  have hlocks := B.notSynchronized
  have hl := lv_entry ([.ref b_x, .long x0]) (n := 3) (Nat.le_of_ble_eq_true rfl)
  rw [lg_entry_eq]
  generalize (lg_sl ([.ref b_x, .long x0]) ++ List.replicate (3 - (lg_sl ([.ref b_x, .long x0])).length) Slot.unset).toArray = ls at hl ⊢
  have hl : lv_has ls 3 [(0, .ref b_x), (1, .long x0)] := hl
  refine lv_lload_n hx hb d_M_isMarked_0 rfl (lv_at hl 1 rfl) ?_
  refine lv_lconst (v := 0) hx hb d_M_isMarked_1 (by decide) ?_
  refine W.lcmp hx hb d_M_isMarked_2 ?_
  refine lv_if_lt (tgt := 40) hx hb d_M_isMarked_3 (by decide) (fun c_3 => ?_) (fun c_3 => ?_)
  · skip
    refine lv_iconst (v := 0) hx hb d_M_isMarked_40 (by decide) ?_
    exact W.zret (v := 0) hx hb hr rfl (fun t ht hW => ⟨_, rfl, by rw [mF_StepMachineModel_isMarked, if_pos c_3], ht⟩) (fun q h => by cases h) d_M_isMarked_41
  · skip
    refine lv_lload_n hx hb d_M_isMarked_6 rfl (lv_at hl 1 rfl) ?_
    refine lv_ldc2 (v := 131072) hx hb hown (hts _ a_696) d_M_isMarked_7 ?_
    refine W.lcmp hx hb d_M_isMarked_10 ?_
    refine lv_if_ge (tgt := 40) hx hb d_M_isMarked_11 (by decide) (fun c_11 => ?_) (fun c_11 => ?_)
    · skip
      refine lv_iconst (v := 0) hx hb d_M_isMarked_40 (by decide) ?_
      exact W.zret (v := 0) hx hb hr rfl (fun t ht hW => ⟨_, rfl, by rw [mF_StepMachineModel_isMarked, if_neg c_3, if_pos c_11], ht⟩) (fun q h => by cases h) d_M_isMarked_41
    · skip
      refine lv_lload_n hx hb d_M_isMarked_14 rfl (lv_at hl 1 rfl) ?_
      refine lv_ldc2 (v := 2) hx hb hown (hts _ a_753) d_M_isMarked_15 ?_
      refine lv_lrem hx hb d_M_isMarked_18 (by decide) ?_
      refine lv_lconst (v := 0) hx hb d_M_isMarked_19 (by decide) ?_
      refine W.lcmp hx hb d_M_isMarked_20 ?_
      refine lv_if_ne (tgt := 40) hx hb d_M_isMarked_21 (by decide) (fun c_21 => ?_) (fun c_21 => ?_)
      · skip
        refine lv_iconst (v := 0) hx hb d_M_isMarked_40 (by decide) ?_
        exact W.zret (v := 0) hx hb hr rfl (fun t ht hW => ⟨_, rfl, by rw [mF_StepMachineModel_isMarked, if_neg c_3, if_neg c_11, if_neg c_21], ht⟩) (fun q h => by cases h) d_M_isMarked_41
      · skip
        refine lv_aload_n hx hb d_M_isMarked_24 rfl (lv_at hl 0 rfl) ?_
        refine va_get (D := D) (ci := 9) (v := .ref b_mrk) (C := "StepMachineModel") (T := TX9) (N := 29) hx hb hts inU_9 hown hK hP 0 rfl rfl 3 (by decide) (hts _ a_636) (fun _ h9 => h9) rfl d_M_isMarked_25 ?_
        refine lv_lload_n hx hb d_M_isMarked_28 rfl (lv_at hl 1 rfl) ?_
        refine lv_l2i (v := x0.toInt32) hx hb d_M_isMarked_29 rfl ?_
        refine lv_iconst (v := 2) hx hb d_M_isMarked_30 (by decide) ?_
        refine lv_idiv hx hb d_M_isMarked_31 (by decide) ?_
        refine va_zald hx hb hK hP 1 2 rfl rfl (in_mrk c_3 c_11) d_M_isMarked_32 ?_
        refine lv_if_eq (tgt := 40) hx hb d_M_isMarked_33 (by decide) (fun c_33 => ?_) (fun c_33 => ?_)
        · skip
          refine lv_iconst (v := 0) hx hb d_M_isMarked_40 (by decide) ?_
          exact W.zret (v := 0) hx hb hr rfl (fun t ht hW => ⟨_, rfl, by rw [mF_StepMachineModel_isMarked, if_neg c_3, if_neg c_11, if_pos c_21, if_pos c_33], ht⟩) (fun q h => by cases h) d_M_isMarked_41
        · skip
          refine lv_iconst (v := 1) hx hb d_M_isMarked_36 (by decide) ?_
          refine lv_goto (tgt := 41) hx hb d_M_isMarked_37 (by decide) ?_
          exact W.zret (v := 1) hx hb hr rfl (fun t ht hW => ⟨_, rfl, by rw [mF_StepMachineModel_isMarked, if_neg c_3, if_neg c_11, if_pos c_21, if_neg c_33], ht⟩) (fun q h => by cases h) d_M_isMarked_41
def mF_StepMachineModel_without_L3 (m_sf : Nat → Int32) (m_ss : Nat → Int32) (m_sr : Nat → Int32) (x0 : Int64) (x1 : Int32) (x2 : Int32) : Nat → Int32 → Int64
  | 0, k_3 => 0
  | n_ + 1, k_3 => (if x1 ≤ k_3 then (-1) else (if ((mF_StepMachineModel_rightsOf m_sf m_ss m_sr (x0 + k_3.toInt64)) &&& x2) = 0 then (x0 + k_3.toInt64) else ((mF_StepMachineModel_without_L3 m_sf m_ss m_sr x0 x1 x2 n_) (k_3 + 1))))
def mF_StepMachineModel_without (m_sf : Nat → Int32) (m_ss : Nat → Int32) (m_sr : Nat → Int32) (x0 : Int64) (x1 : Int32) (x2 : Int32) : Int64 := (mF_StepMachineModel_without_L3 m_sf m_ss m_sr x0 x1 x2 ((x1.toInt - (0 : Int32).toInt).toNat + 1) (0 : Int32))
set_option maxHeartbeats 4000000 in
set_option maxRecDepth 100000 in
theorem mc_StepMachineModel_without (l : Launch) (D : va_G) (tc : Nat → ClassId) (tb : Nat → Nat) (z0 : Nat) (b_x b_sf b_ss b_sr b_row b_part b_mem b_mrk b_h b_r b_in b_out b_k : Nat) (m_on : Int32) (m_hc : Int32) (m_pc : Int32) (m_giv : Int32) (m_tak : Int32) (m_put : Int32) (m_st : Int32) (m_cu : Int32) (m_va : Int32) (m_sp : Int32) (m_un : Int32) (m_kc : Int32) (m_kn : Int32) (m_by : Int32) (m_kd : Int32) (m_tg : Int32) (m_ju : Int32) (m_sf : Nat → Int32) (m_ss : Nat → Int32) (m_sr : Nat → Int32) (x0 : Int64) (x1 : Int32) (x2 : Int32) : Met l y_M_without (wM y_M_without b_M_without 6 (some .long)) ({ frames := 1, cells := 0, slots := 0, locals := 23 }) (va_Pc [.ref b_x, .long x0, .int x1, .int x2] (Pr D tc tb z0 [(b_x, .inr (9, [.ref b_row, .ref b_part, .ref b_mem, .ref b_mrk, .ref b_sf, .ref b_ss, .ref b_sr, .int m_on, .ref b_h, .int m_hc, .ref b_r, .int m_pc, .ref b_in, .int m_giv, .int m_tak, .ref b_out, .int m_put, .int m_st, .int m_cu, .int m_va, .int m_sp, .int m_un, .ref b_k, .int m_kc, .int m_kn, .int m_by, .int m_kd, .int m_tg, .int m_ju])), (b_sf, .inl (tc 0, 8, .inl m_sf)), (b_ss, .inl (tc 0, 8, .inl m_ss)), (b_sr, .inl (tc 0, 8, .inl m_sr))])) (vp_Sl (fun r => r = (mF_StepMachineModel_without m_sf m_ss m_sr x0 x1 x2))) 0 0 (fun _ => False) := by
  refine Met.ofW (cc := b_M_without) (maxL := 6) (ret := (some .long)) (by decide) rfl ?_
  intro p e s m args below meth c s₁ B hml hv
  obtain ⟨rfl, hP, hK, hB⟩ := hv
  have hx := B.exec
  have hb := B.bytes
  have hr := B.returns
  have hts : ∀ w ∈ wALL, w.before _ s = true := fun w h => atoms_spec (ws := (wM y_M_without b_M_without 6 (some .long))) B.pre w (List.mem_cons_of_mem _ h)
  have hown : s.vm.findClass "StepMachineModel" = some m.cls := findClass_of_methodNamed B.named
  have hlocks := B.notSynchronized
  have hl := lv_entry ([.ref b_x, .long x0, .int x1, .int x2]) (n := 6) (Nat.le_of_ble_eq_true rfl)
  rw [lg_entry_eq]
  generalize (lg_sl ([.ref b_x, .long x0, .int x1, .int x2]) ++ List.replicate (6 - (lg_sl ([.ref b_x, .long x0, .int x1, .int x2])).length) Slot.unset).toArray = ls at hl ⊢
  have hl : lv_has ls 6 [(0, .ref b_x), (1, .long x0), (3, .int x1), (4, .int x2)] := hl
  refine lv_iconst (v := 0) hx hb d_M_without_0 (by decide) ?_
  refine lv_istore (lv' := [(5, .int 0), (0, .ref b_x), (1, .long x0), (3, .int x1), (4, .int x2)]) hx hb d_M_without_1 hl (by decide) rfl (fun ls hl => ?_)
  have loop_3 : ∀ (n_3 : Nat) (k_3 : Int32) (ls : Array Slot), (0 ≤ k_3.toInt) → (x1.toInt - k_3.toInt).toNat < n_3 → (mF_StepMachineModel_without_L3 m_sf m_ss m_sr x0 x1 x2 n_3 k_3) = (mF_StepMachineModel_without m_sf m_ss m_sr x0 x1 x2) → lv_has ls 6 [(5, .int k_3), (0, .ref b_x), (1, .long x0), (3, .int x1), (4, .int x2)] → W p l e (headSpec (wM y_M_without b_M_without 6 (some .long)) ({ frames := 1, cells := 0, slots := 0, locals := 23 })).room s m ([.ref b_x, .long x0, .int x1, .int x2]).toArray below meth c s.heap [] 0 0 (MQ below (vp_Sl (fun r => r = (mF_StepMachineModel_without m_sf m_ss m_sr x0 x1 x2))) ([.ref b_x, .long x0, .int x1, .int x2]).toArray s 0 0 (fun _ => False)) (F0 m 3 ls []) := by
    intro n_3
    induction n_3 with
    | zero =>
      intro k_3 ls hq hm
      exact absurd hm (Nat.not_lt_zero _)
    | succ n_3 ih_3 =>
      intro k_3 ls hq hm_3 hF_3 hl
      refine lv_iload hx hb d_M_without_3 (lv_at hl 0 rfl) ?_
      refine lv_iload_n hx hb d_M_without_5 rfl (lv_at hl 3 rfl) ?_
      refine lv_icmp_ge (tgt := 36) hx hb d_M_without_6 (by decide) (fun c_6 => ?_) (fun c_6 => ?_)
      · skip
        refine lv_ldc2 (v := (-1)) hx hb hown (hts _ a_763) d_M_without_36 ?_
        exact W.lret (v := (-1)) hx hb hr (fun t ht hW => ⟨_, rfl, by rw [← hF_3, mF_StepMachineModel_without_L3, if_pos c_6], ht⟩) (fun q h => by cases h) d_M_without_39
      · skip
        refine lv_aload_n hx hb d_M_without_9 rfl (lv_at hl 1 rfl) ?_
        refine lv_lload_n hx hb d_M_without_10 rfl (lv_at hl 2 rfl) ?_
        refine lv_iload hx hb d_M_without_11 (lv_at hl 0 rfl) ?_
        refine lv_i2l (v := k_3.toInt64) hx hb d_M_without_13 rfl ?_
        refine lv_ladd hx hb d_M_without_14 ?_
        refine roVi (As := [.long (x0 + k_3.toInt64)]) (rest := []) ⟨hx, hb, hml, hown, hts⟩ (mc_StepMachineModel_rightsOf l D tc tb z0 b_x b_sf b_ss b_sr b_row b_part b_mem b_mrk b_h b_r b_in b_out b_k m_on m_hc m_pc m_giv m_tak m_put m_st m_cu m_va m_sp m_un m_kc m_kn m_by m_kd m_tg m_ju m_sf m_ss m_sr (x0 + k_3.toInt64)) (cwV 1 hts (goodV a_760 a_761 a_924 a_10 a_762) rfl rfl rfl hv_M_rightsOf ⟨Nat.le_of_ble_eq_true rfl, Nat.le_of_ble_eq_true rfl⟩) (hP.sub [0, 1, 2, 3] rfl) hK hB rfl rfl rfl hl.1 rfl (Nat.le_of_ble_eq_true rfl) d_M_without_15 ⟨Nat.zero_le _, Nat.zero_le _⟩ ?_
        refine lv_iload hx hb d_M_without_18 (lv_at hl 4 rfl) ?_
        refine lv_iand hx hb d_M_without_20 ?_
        refine lv_if_ne (tgt := 30) hx hb d_M_without_21 (by decide) (fun c_21 => ?_) (fun c_21 => ?_)
        · skip
          refine lv_iinc (v := (k_3 + 1)) (lv' := [(5, .int (k_3 + 1)), (0, .ref b_x), (1, .long x0), (3, .int x1), (4, .int x2)]) hx hb d_M_without_30 hl (k := 0) rfl rfl (by decide) rfl (fun ls hl => ?_)
          refine lv_goto (tgt := 3) hx hb d_M_without_33 (by decide) ?_
          exact ih_3 (k_3 + 1) ls (st_nn c_6 hq) (ms_step c_6 hm_3) (by rw [← hF_3, mF_StepMachineModel_without_L3, if_neg c_6, if_neg c_21]) (lv_sub hl [0, 1, 2, 3, 4] rfl)
        · skip
          refine lv_lload_n hx hb d_M_without_24 rfl (lv_at hl 2 rfl) ?_
          refine lv_iload hx hb d_M_without_25 (lv_at hl 0 rfl) ?_
          refine lv_i2l (v := k_3.toInt64) hx hb d_M_without_27 rfl ?_
          refine lv_ladd hx hb d_M_without_28 ?_
          exact W.lret (v := (x0 + k_3.toInt64)) hx hb hr (fun t ht hW => ⟨_, rfl, by rw [← hF_3, mF_StepMachineModel_without_L3, if_neg c_6, if_pos c_21], ht⟩) (fun q h => by cases h) d_M_without_29
  exact loop_3 ((x1.toInt - (0 : Int32).toInt).toNat + 1) (0 : Int32) ls (by decide) (Nat.lt_succ_self _) (by rw [mF_StepMachineModel_without]) (lv_sub hl [0, 1, 2, 3, 4] rfl)
theorem l_0 : (0 : Int64).toInt = 0 := by decide
theorem l_131072 : (131072 : Int64).toInt = 131072 := by decide
theorem li_add {a b : Int64} (h1 : -9223372036854775808 ≤ a.toInt + b.toInt) (h2 : a.toInt + b.toInt < 9223372036854775808) : (a + b).toInt = a.toInt + b.toInt := by
  rw [Int64.toInt_add]
  exact Int.bmod_eq_of_le (by omega) (by omega)
theorem li_i (k : Int32) : k.toInt64.toInt = k.toInt := by
  rw [Int32.toInt_toInt64]
theorem ro_mem {f g r : Nat → Int32} {a : Int64} (h : ¬ mF_StepMachineModel_rightsOf f g r a = 0) : 0 ≤ a.toInt ∧ a.toInt < 131072 := by
  rw [mF_StepMachineModel_rightsOf] at h
  split at h
  · exact absurd rfl h
  · rename_i h1
    split at h
    · rename_i h2
      have a1 := Int.not_lt.mp (fun q => h1 ((lg_cmp_lt a 0).mpr (Int64.lt_iff_toInt_lt.mpr q)))
      have a2 := Int64.lt_iff_toInt_lt.mp ((lg_cmp_lt a 131072).mp h2)
      rw [l_0] at a1
      rw [l_131072] at a2
      exact ⟨a1, a2⟩
    · exact absurd rfl h
theorem wo_L {f g r : Nat → Int32} {a : Int64} {x1 x2 : Int32} (ha : 0 ≤ a.toInt ∧ a.toInt < 4294967300) : ∀ (n : Nat) (k : Int32), 0 ≤ k.toInt → (x1.toInt - k.toInt).toNat < n → (mF_StepMachineModel_without_L3 f g r a x1 x2 n k).toInt < 0 → ∀ j : Int32, k.toInt ≤ j.toInt → j.toInt < x1.toInt → 0 ≤ (a + j.toInt64).toInt ∧ (a + j.toInt64).toInt < 131072 := by
  intro n
  induction n with
  | zero => intro k _ h; exact absurd h (Nat.not_lt_zero _)
  | succ n ih =>
    intro k hq hm hL j h1 h2
    rw [mF_StepMachineModel_without_L3] at hL
    split at hL
    · rename_i h
      have := ti_le h
      omega
    · rename_i h
      split at hL
      · exfalso
        have hk := Int32.toInt_lt k
        rw [li_add (by rw [li_i]; omega) (by rw [li_i]; omega), li_i] at hL
        omega
      · rename_i hr
        by_cases hj : j = k
        · rw [hj]
          exact ro_mem (fun q => hr (by rw [q]; exact Int32.zero_and))
        · have hjk : k.toInt ≠ j.toInt := fun q => hj (Int32.toInt_inj.mp q.symm)
          have hx := Int32.toInt_lt x1
          refine ih (k + 1) (st_nn h hq) (ms_step h hm) hL j ?_ h2
          rw [ti_add (by rw [e_1]; omega) (by rw [e_1]; omega), e_1]
          omega
theorem wo_all {f g r : Nat → Int32} {a : Int64} {x1 x2 : Int32} (ha : 0 ≤ a.toInt ∧ a.toInt < 4294967300) (hL : lg_cmp (mF_StepMachineModel_without f g r a x1 x2) 0 < 0) (j : Int32) (h1 : 0 ≤ j.toInt) (h2 : j.toInt < x1.toInt) : 0 ≤ a.toInt + j.toInt ∧ a.toInt + j.toInt < 131072 := by
  have h3 := Int64.lt_iff_toInt_lt.mp ((lg_cmp_lt _ 0).mp hL)
  rw [l_0] at h3
  have h4 := wo_L ha _ 0 (by decide) (Nat.lt_succ_self _) h3 j (by rw [e_0]; exact h1) h2
  have hj := Int32.toInt_lt j
  rw [li_add (by rw [li_i]; omega) (by rw [li_i]; omega), li_i] at h4
  exact h4
theorem bare_rng (x : Int32) : 0 ≤ (mF_StepMachineModel_bare x).toInt ∧ (mF_StepMachineModel_bare x).toInt < 4294967296 := by
  have h := x.toBitVec.isLt
  rw [show (mF_StepMachineModel_bare x).toInt = (x.toBitVec.toNat : Int) from bare_toInt x]
  omega
theorem bare_small {x : Int32} (h : (mF_StepMachineModel_bare x).toInt < 131072) : (mF_StepMachineModel_bare x).toInt = x.toInt := by
  rw [show (mF_StepMachineModel_bare x).toInt = (x.toBitVec.toNat : Int) from bare_toInt x] at h ⊢
  have h2 := Int32.le_toInt x
  rcases ti_nat x with h1 | h1 <;> omega
theorem wo_mem {f g r : Nat → Int32} {x x1 x2 : Int32} (hx : 0 < x1.toInt) (hL : lg_cmp (mF_StepMachineModel_without f g r (mF_StepMachineModel_bare x) x1 x2) 0 < 0) : inM x x1 := by
  have hb := bare_rng x
  have h0 := wo_all ⟨hb.1, by omega⟩ hL 0 (by decide) (by rw [e_0]; exact hx)
  rw [e_0] at h0
  have hs := bare_small (x := x) (by omega)
  have hx1 := Int32.toInt_lt x1
  have e : (x1 - 1).toInt = x1.toInt - 1 := by rw [ti_sub (by rw [e_1]; omega) (by rw [e_1]; omega), e_1]
  have h1 := wo_all ⟨hb.1, by omega⟩ hL (x1 - 1) (by omega) (by omega)
  exact ⟨by omega, by omega⟩
theorem wo_mem4 {f g r : Nat → Int32} {x x2 y2 : Int32} (h1 : lg_cmp (mF_StepMachineModel_without f g r (mF_StepMachineModel_bare x) 2 x2) 0 < 0) (h2 : lg_cmp (mF_StepMachineModel_without f g r (mF_StepMachineModel_bare x + 2) 2 y2) 0 < 0) : inM x 4 := by
  have hb := bare_rng x
  have m := wo_mem (by decide) h1
  obtain ⟨m1, m2⟩ := m
  have h0 := wo_all ⟨hb.1, by omega⟩ h1 0 (by decide) (by decide)
  rw [e_0] at h0
  have hs := bare_small (x := x) (by omega)
  have l2 : (2 : Int64).toInt = 2 := by decide
  have e : (mF_StepMachineModel_bare x + 2).toInt = (mF_StepMachineModel_bare x).toInt + 2 := by rw [li_add (by rw [l2]; omega) (by rw [l2]; omega), l2]
  have h3 := wo_all (a := mF_StepMachineModel_bare x + 2) ⟨by omega, by omega⟩ h2 1 (by decide) (by decide)
  rw [e, e_1] at h3
  refine ⟨m1, ?_⟩
  rw [e_4]
  omega
def mF_StepMachineModel_fetched_L5 (m_mem : Nat → Int32) (x0 : Int32) (x1 : Int32) : Nat → Int32 → Int32 → Int32 × Int32
  | 0, k_5, y_v => (k_5, y_v)
  | n_ + 1, k_5, y_v => (if x1 ≤ k_5 then (k_5, y_v) else ((mF_StepMachineModel_fetched_L5 m_mem x0 x1 n_) (k_5 + 1) (y_v ||| ((m_mem (x0 + k_5).toNatClampNeg) <<< ((8 * k_5) &&& 31)))))
def mF_StepMachineModel_fetched_1  (q_5 : Int32 × Int32) : Int32 := q_5.2
def mF_StepMachineModel_fetched (m_mem : Nat → Int32) (x0 : Int32) (x1 : Int32) : Int32 := (mF_StepMachineModel_fetched_1 (mF_StepMachineModel_fetched_L5 m_mem x0 x1 ((x1.toInt - (0 : Int32).toInt).toNat + 1) (0 : Int32) 0))
set_option maxHeartbeats 4000000 in
set_option maxRecDepth 100000 in
theorem mc_StepMachineModel_fetched (l : Launch) (D : va_G) (tc : Nat → ClassId) (tb : Nat → Nat) (z0 : Nat) (b_x b_mem b_row b_part b_mrk b_sf b_ss b_sr b_h b_r b_in b_out b_k : Nat) (m_on : Int32) (m_hc : Int32) (m_pc : Int32) (m_giv : Int32) (m_tak : Int32) (m_put : Int32) (m_st : Int32) (m_cu : Int32) (m_va : Int32) (m_sp : Int32) (m_un : Int32) (m_kc : Int32) (m_kn : Int32) (m_by : Int32) (m_kd : Int32) (m_tg : Int32) (m_ju : Int32) (m_mem : Nat → Int32) (x0 : Int32) (x1 : Int32) (hi : inM x0 x1) : Met l y_M_fetched (wM y_M_fetched b_M_fetched 5 (some .int)) ({ frames := 0, cells := 0, slots := 0, locals := 0 }) (va_Pc [.ref b_x, .int x0, .int x1] (Pr D tc tb z0 [(b_x, .inr (9, [.ref b_row, .ref b_part, .ref b_mem, .ref b_mrk, .ref b_sf, .ref b_ss, .ref b_sr, .int m_on, .ref b_h, .int m_hc, .ref b_r, .int m_pc, .ref b_in, .int m_giv, .int m_tak, .ref b_out, .int m_put, .int m_st, .int m_cu, .int m_va, .int m_sp, .int m_un, .ref b_k, .int m_kc, .int m_kn, .int m_by, .int m_kd, .int m_tg, .int m_ju])), (b_mem, .inl (tc 0, 131072, .inl m_mem))])) (vp_Si (fun r => r = (mF_StepMachineModel_fetched m_mem x0 x1))) 0 0 (fun _ => False) := by
  refine Met.ofW (cc := b_M_fetched) (maxL := 5) (ret := (some .int)) (by decide) rfl ?_
  intro p e s m args below meth c s₁ B hml hv
  obtain ⟨rfl, hP, hK, hB⟩ := hv
  have hx := B.exec
  have hb := B.bytes
  have hr := B.returns
  have hts : ∀ w ∈ wALL, w.before _ s = true := fun w h => atoms_spec (ws := (wM y_M_fetched b_M_fetched 5 (some .int))) B.pre w (List.mem_cons_of_mem _ h)
  have hown : s.vm.findClass "StepMachineModel" = some m.cls := findClass_of_methodNamed B.named
  have hlocks := B.notSynchronized
  have hl := lv_entry ([.ref b_x, .int x0, .int x1]) (n := 5) (Nat.le_of_ble_eq_true rfl)
  rw [lg_entry_eq]
  generalize (lg_sl ([.ref b_x, .int x0, .int x1]) ++ List.replicate (5 - (lg_sl ([.ref b_x, .int x0, .int x1])).length) Slot.unset).toArray = ls at hl ⊢
  have hl : lv_has ls 5 [(0, .ref b_x), (1, .int x0), (2, .int x1)] := hl
  refine lv_iconst (v := 0) hx hb d_M_fetched_0 (by decide) ?_
  refine lv_istore_n (lv' := [(3, .int 0), (0, .ref b_x), (1, .int x0), (2, .int x1)]) hx hb d_M_fetched_1 rfl hl (by decide) rfl (fun ls hl => ?_)
  refine lv_iconst (v := 0) hx hb d_M_fetched_2 (by decide) ?_
  refine lv_istore (lv' := [(4, .int 0), (3, .int 0), (0, .ref b_x), (1, .int x0), (2, .int x1)]) hx hb d_M_fetched_3 hl (by decide) rfl (fun ls hl => ?_)
  have loop_5 : ∀ (n_5 : Nat) (k_5 : Int32) (y_v : Int32) (ls : Array Slot), (0 ≤ k_5.toInt) → (x1.toInt - k_5.toInt).toNat < n_5 → (∀ (ls : Array Slot), (0 ≤ (mF_StepMachineModel_fetched_L5 m_mem x0 x1 n_5 k_5 y_v).1.toInt) → lv_has ls 5 [(4, .int ((mF_StepMachineModel_fetched_L5 m_mem x0 x1 n_5 k_5 y_v).1)), (3, .int ((mF_StepMachineModel_fetched_L5 m_mem x0 x1 n_5 k_5 y_v).2)), (0, .ref b_x), (1, .int x0), (2, .int x1)] → W p l e (headSpec (wM y_M_fetched b_M_fetched 5 (some .int)) ({ frames := 0, cells := 0, slots := 0, locals := 0 })).room s m ([.ref b_x, .int x0, .int x1]).toArray below meth c s.heap [] 0 0 (MQ below (vp_Si (fun r => r = (mF_StepMachineModel_fetched m_mem x0 x1))) ([.ref b_x, .int x0, .int x1]).toArray s 0 0 (fun _ => False)) (F0 m 35 ls [])) → lv_has ls 5 [(4, .int k_5), (3, .int y_v), (0, .ref b_x), (1, .int x0), (2, .int x1)] → W p l e (headSpec (wM y_M_fetched b_M_fetched 5 (some .int)) ({ frames := 0, cells := 0, slots := 0, locals := 0 })).room s m ([.ref b_x, .int x0, .int x1]).toArray below meth c s.heap [] 0 0 (MQ below (vp_Si (fun r => r = (mF_StepMachineModel_fetched m_mem x0 x1))) ([.ref b_x, .int x0, .int x1]).toArray s 0 0 (fun _ => False)) (F0 m 5 ls []) := by
    intro n_5
    induction n_5 with
    | zero =>
      intro k_5 y_v ls hq hm
      exact absurd hm (Nat.not_lt_zero _)
    | succ n_5 ih_5 =>
      intro k_5 y_v ls hq hm_5 hX_5 hl
      refine lv_iload hx hb d_M_fetched_5 (lv_at hl 0 rfl) ?_
      refine lv_iload_n hx hb d_M_fetched_7 rfl (lv_at hl 4 rfl) ?_
      refine lv_icmp_ge (tgt := 35) hx hb d_M_fetched_8 (by decide) (fun c_8 => ?_) (fun c_8 => ?_)
      · skip
        rw [mF_StepMachineModel_fetched_L5, if_pos c_8] at hX_5
        exact hX_5 ls hq (lv_sub hl [0, 1, 2, 3, 4] rfl)
      · skip
        refine lv_iload_n hx hb d_M_fetched_11 rfl (lv_at hl 1 rfl) ?_
        refine lv_aload_n hx hb d_M_fetched_12 rfl (lv_at hl 2 rfl) ?_
        refine va_get (D := D) (ci := 9) (v := .ref b_mem) (C := "StepMachineModel") (T := TX9) (N := 29) hx hb hts inU_9 hown hK hP 0 rfl rfl 2 (by decide) (hts _ a_635) (fun _ h9 => h9) rfl d_M_fetched_13 ?_
        refine lv_iload_n hx hb d_M_fetched_16 rfl (lv_at hl 3 rfl) ?_
        refine lv_iload hx hb d_M_fetched_17 (lv_at hl 0 rfl) ?_
        refine lv_iadd hx hb d_M_fetched_19 ?_
        refine va_iald hx hb hK hP 1 0 rfl rfl (in_fet hi hq c_8) d_M_fetched_20 ?_
        refine lv_bipush (v := 8) hx hb d_M_fetched_21 (by decide) ?_
        refine lv_iload hx hb d_M_fetched_23 (lv_at hl 0 rfl) ?_
        refine lv_imul hx hb d_M_fetched_25 ?_
        refine lv_ishl hx hb d_M_fetched_26 ?_
        refine lv_ior hx hb d_M_fetched_27 ?_
        refine lv_istore_n (lv' := [(3, .int (y_v ||| ((m_mem (x0 + k_5).toNatClampNeg) <<< ((8 * k_5) &&& 31)))), (4, .int k_5), (0, .ref b_x), (1, .int x0), (2, .int x1)]) hx hb d_M_fetched_28 rfl hl (by decide) rfl (fun ls hl => ?_)
        refine lv_iinc (v := (k_5 + 1)) (lv' := [(4, .int (k_5 + 1)), (3, .int (y_v ||| ((m_mem (x0 + k_5).toNatClampNeg) <<< ((8 * k_5) &&& 31)))), (0, .ref b_x), (1, .int x0), (2, .int x1)]) hx hb d_M_fetched_29 hl (k := 1) rfl rfl (by decide) rfl (fun ls hl => ?_)
        refine lv_goto (tgt := 5) hx hb d_M_fetched_32 (by decide) ?_
        exact ih_5 (k_5 + 1) (y_v ||| ((m_mem (x0 + k_5).toNatClampNeg) <<< ((8 * k_5) &&& 31))) ls (st_nn c_8 hq) (ms_step c_8 hm_5) (by have h := hX_5; rw [mF_StepMachineModel_fetched_L5, if_neg c_8] at h; exact h) (lv_sub hl [0, 1, 2, 3, 4] rfl)
  obtain ⟨q_5, e_5⟩ : ∃ z, z = (mF_StepMachineModel_fetched_L5 m_mem x0 x1 ((x1.toInt - (0 : Int32).toInt).toNat + 1) (0 : Int32) 0) := ⟨_, rfl⟩
  refine loop_5 ((x1.toInt - (0 : Int32).toInt).toNat + 1) (0 : Int32) 0 ls (by decide) (Nat.lt_succ_self _) ?_ (lv_sub hl [0, 1, 2, 3, 4] rfl)
  rw [← e_5]
  intro ls hq hl
  have hl : lv_has ls 5 [(4, .int q_5.1), (3, .int q_5.2), (0, .ref b_x), (1, .int x0), (2, .int x1)] := hl
  refine lv_iload_n hx hb d_M_fetched_35 rfl (lv_at hl 1 rfl) ?_
  exact W.iret (v := q_5.2) hx hb hr (fun t ht hW => ⟨_, rfl, by rw [mF_StepMachineModel_fetched, ← e_5, mF_StepMachineModel_fetched_1], ht⟩) (fun q h => by cases h) d_M_fetched_36
def mF_StepMachineModel_state (m_hc : Int32) (m_giv : Int32) (m_tak : Int32) (m_put : Int32) (m_st : Int32) (m_cu : Int32) (m_va : Int32) (m_sp : Int32) (m_un : Int32) (m_kc : Int32) (x0 : Int32) : Int32 := (if x0 = 0 then m_st else (if x0 = 1 then m_cu else (if x0 = 2 then m_va else (if x0 = 3 then m_sp else (if x0 = 4 then m_un else (if x0 = 5 then m_put else (if x0 = 6 then (m_giv - m_tak) else (if x0 = 7 then m_kc else (if x0 = 8 then m_hc else (-1))))))))))
set_option maxHeartbeats 4000000 in
set_option maxRecDepth 100000 in
theorem mc_StepMachineModel_state (l : Launch) (D : va_G) (tc : Nat → ClassId) (tb : Nat → Nat) (z0 : Nat) (b_x b_row b_part b_mem b_mrk b_sf b_ss b_sr b_h b_r b_in b_out b_k : Nat) (m_on : Int32) (m_hc : Int32) (m_pc : Int32) (m_giv : Int32) (m_tak : Int32) (m_put : Int32) (m_st : Int32) (m_cu : Int32) (m_va : Int32) (m_sp : Int32) (m_un : Int32) (m_kc : Int32) (m_kn : Int32) (m_by : Int32) (m_kd : Int32) (m_tg : Int32) (m_ju : Int32) (x0 : Int32) : Met l y_M_state (wM y_M_state b_M_state 2 (some .int)) ({ frames := 0, cells := 0, slots := 0, locals := 0 }) (va_Pc [.ref b_x, .int x0] (Pr D tc tb z0 [(b_x, .inr (9, [.ref b_row, .ref b_part, .ref b_mem, .ref b_mrk, .ref b_sf, .ref b_ss, .ref b_sr, .int m_on, .ref b_h, .int m_hc, .ref b_r, .int m_pc, .ref b_in, .int m_giv, .int m_tak, .ref b_out, .int m_put, .int m_st, .int m_cu, .int m_va, .int m_sp, .int m_un, .ref b_k, .int m_kc, .int m_kn, .int m_by, .int m_kd, .int m_tg, .int m_ju]))])) (vp_Si (fun r => r = (mF_StepMachineModel_state m_hc m_giv m_tak m_put m_st m_cu m_va m_sp m_un m_kc x0))) 0 0 (fun _ => False) := by
  refine Met.ofW (cc := b_M_state) (maxL := 2) (ret := (some .int)) (by decide) rfl ?_
  intro p e s m args below meth c s₁ B hml hv
  obtain ⟨rfl, hP, hK, hB⟩ := hv
  have hx := B.exec
  have hb := B.bytes
  have hr := B.returns
  have hts : ∀ w ∈ wALL, w.before _ s = true := fun w h => atoms_spec (ws := (wM y_M_state b_M_state 2 (some .int))) B.pre w (List.mem_cons_of_mem _ h)
  have hown : s.vm.findClass "StepMachineModel" = some m.cls := findClass_of_methodNamed B.named
  have hlocks := B.notSynchronized
  have hl := lv_entry ([.ref b_x, .int x0]) (n := 2) (Nat.le_of_ble_eq_true rfl)
  rw [lg_entry_eq]
  generalize (lg_sl ([.ref b_x, .int x0]) ++ List.replicate (2 - (lg_sl ([.ref b_x, .int x0])).length) Slot.unset).toArray = ls at hl ⊢
  have hl : lv_has ls 2 [(0, .ref b_x), (1, .int x0)] := hl
  refine lv_iload_n hx hb d_M_state_0 rfl (lv_at hl 1 rfl) ?_
  by_cases c_1_0 : x0 = 0
  · skip
    refine lv_tableIn (tgt := 52) hx hb d_M_state_1 (by rw [c_1_0]; decide) (by rw [c_1_0]; decide) (by rw [c_1_0] <;> rfl) (by decide) ?_
    refine lv_aload_n hx hb d_M_state_52 rfl (lv_at hl 0 rfl) ?_
    refine va_get (D := D) (ci := 9) (v := .int m_st) (C := "StepMachineModel") (T := TX9) (N := 29) hx hb hts inU_9 hown hK hP 0 rfl rfl 17 (by decide) (hts _ a_650) (fun _ h9 => h9) rfl d_M_state_53 ?_
    exact W.iret (v := m_st) hx hb hr (fun t ht hW => ⟨_, rfl, by rw [mF_StepMachineModel_state, if_pos c_1_0], ht⟩) (fun q h => by cases h) d_M_state_56
  · skip
    by_cases c_1_1 : x0 = 1
    · skip
      refine lv_tableIn (tgt := 57) hx hb d_M_state_1 (by rw [c_1_1]; decide) (by rw [c_1_1]; decide) (by rw [c_1_1] <;> rfl) (by decide) ?_
      refine lv_aload_n hx hb d_M_state_57 rfl (lv_at hl 0 rfl) ?_
      refine va_get (D := D) (ci := 9) (v := .int m_cu) (C := "StepMachineModel") (T := TX9) (N := 29) hx hb hts inU_9 hown hK hP 0 rfl rfl 18 (by decide) (hts _ a_651) (fun _ h9 => h9) rfl d_M_state_58 ?_
      exact W.iret (v := m_cu) hx hb hr (fun t ht hW => ⟨_, rfl, by rw [mF_StepMachineModel_state, if_neg c_1_0, if_pos c_1_1], ht⟩) (fun q h => by cases h) d_M_state_61
    · skip
      by_cases c_1_2 : x0 = 2
      · skip
        refine lv_tableIn (tgt := 62) hx hb d_M_state_1 (by rw [c_1_2]; decide) (by rw [c_1_2]; decide) (by rw [c_1_2] <;> rfl) (by decide) ?_
        refine lv_aload_n hx hb d_M_state_62 rfl (lv_at hl 0 rfl) ?_
        refine va_get (D := D) (ci := 9) (v := .int m_va) (C := "StepMachineModel") (T := TX9) (N := 29) hx hb hts inU_9 hown hK hP 0 rfl rfl 19 (by decide) (hts _ a_652) (fun _ h9 => h9) rfl d_M_state_63 ?_
        exact W.iret (v := m_va) hx hb hr (fun t ht hW => ⟨_, rfl, by rw [mF_StepMachineModel_state, if_neg c_1_0, if_neg c_1_1, if_pos c_1_2], ht⟩) (fun q h => by cases h) d_M_state_66
      · skip
        by_cases c_1_3 : x0 = 3
        · skip
          refine lv_tableIn (tgt := 67) hx hb d_M_state_1 (by rw [c_1_3]; decide) (by rw [c_1_3]; decide) (by rw [c_1_3] <;> rfl) (by decide) ?_
          refine lv_aload_n hx hb d_M_state_67 rfl (lv_at hl 0 rfl) ?_
          refine va_get (D := D) (ci := 9) (v := .int m_sp) (C := "StepMachineModel") (T := TX9) (N := 29) hx hb hts inU_9 hown hK hP 0 rfl rfl 20 (by decide) (hts _ a_653) (fun _ h9 => h9) rfl d_M_state_68 ?_
          exact W.iret (v := m_sp) hx hb hr (fun t ht hW => ⟨_, rfl, by rw [mF_StepMachineModel_state, if_neg c_1_0, if_neg c_1_1, if_neg c_1_2, if_pos c_1_3], ht⟩) (fun q h => by cases h) d_M_state_71
        · skip
          by_cases c_1_4 : x0 = 4
          · skip
            refine lv_tableIn (tgt := 72) hx hb d_M_state_1 (by rw [c_1_4]; decide) (by rw [c_1_4]; decide) (by rw [c_1_4] <;> rfl) (by decide) ?_
            refine lv_aload_n hx hb d_M_state_72 rfl (lv_at hl 0 rfl) ?_
            refine va_get (D := D) (ci := 9) (v := .int m_un) (C := "StepMachineModel") (T := TX9) (N := 29) hx hb hts inU_9 hown hK hP 0 rfl rfl 21 (by decide) (hts _ a_654) (fun _ h9 => h9) rfl d_M_state_73 ?_
            exact W.iret (v := m_un) hx hb hr (fun t ht hW => ⟨_, rfl, by rw [mF_StepMachineModel_state, if_neg c_1_0, if_neg c_1_1, if_neg c_1_2, if_neg c_1_3, if_pos c_1_4], ht⟩) (fun q h => by cases h) d_M_state_76
          · skip
            by_cases c_1_5 : x0 = 5
            · skip
              refine lv_tableIn (tgt := 77) hx hb d_M_state_1 (by rw [c_1_5]; decide) (by rw [c_1_5]; decide) (by rw [c_1_5] <;> rfl) (by decide) ?_
              refine lv_aload_n hx hb d_M_state_77 rfl (lv_at hl 0 rfl) ?_
              refine va_get (D := D) (ci := 9) (v := .int m_put) (C := "StepMachineModel") (T := TX9) (N := 29) hx hb hts inU_9 hown hK hP 0 rfl rfl 16 (by decide) (hts _ a_649) (fun _ h9 => h9) rfl d_M_state_78 ?_
              exact W.iret (v := m_put) hx hb hr (fun t ht hW => ⟨_, rfl, by rw [mF_StepMachineModel_state, if_neg c_1_0, if_neg c_1_1, if_neg c_1_2, if_neg c_1_3, if_neg c_1_4, if_pos c_1_5], ht⟩) (fun q h => by cases h) d_M_state_81
            · skip
              by_cases c_1_6 : x0 = 6
              · skip
                refine lv_tableIn (tgt := 82) hx hb d_M_state_1 (by rw [c_1_6]; decide) (by rw [c_1_6]; decide) (by rw [c_1_6] <;> rfl) (by decide) ?_
                refine lv_aload_n hx hb d_M_state_82 rfl (lv_at hl 0 rfl) ?_
                refine va_get (D := D) (ci := 9) (v := .int m_giv) (C := "StepMachineModel") (T := TX9) (N := 29) hx hb hts inU_9 hown hK hP 0 rfl rfl 13 (by decide) (hts _ a_646) (fun _ h9 => h9) rfl d_M_state_83 ?_
                refine lv_aload_n hx hb d_M_state_86 rfl (lv_at hl 0 rfl) ?_
                refine va_get (D := D) (ci := 9) (v := .int m_tak) (C := "StepMachineModel") (T := TX9) (N := 29) hx hb hts inU_9 hown hK hP 0 rfl rfl 14 (by decide) (hts _ a_647) (fun _ h9 => h9) rfl d_M_state_87 ?_
                refine lv_isub hx hb d_M_state_90 ?_
                exact W.iret (v := (m_giv - m_tak)) hx hb hr (fun t ht hW => ⟨_, rfl, by rw [mF_StepMachineModel_state, if_neg c_1_0, if_neg c_1_1, if_neg c_1_2, if_neg c_1_3, if_neg c_1_4, if_neg c_1_5, if_pos c_1_6], ht⟩) (fun q h => by cases h) d_M_state_91
              · skip
                by_cases c_1_7 : x0 = 7
                · skip
                  refine lv_tableIn (tgt := 92) hx hb d_M_state_1 (by rw [c_1_7]; decide) (by rw [c_1_7]; decide) (by rw [c_1_7] <;> rfl) (by decide) ?_
                  refine lv_aload_n hx hb d_M_state_92 rfl (lv_at hl 0 rfl) ?_
                  refine va_get (D := D) (ci := 9) (v := .int m_kc) (C := "StepMachineModel") (T := TX9) (N := 29) hx hb hts inU_9 hown hK hP 0 rfl rfl 23 (by decide) (hts _ a_656) (fun _ h9 => h9) rfl d_M_state_93 ?_
                  exact W.iret (v := m_kc) hx hb hr (fun t ht hW => ⟨_, rfl, by rw [mF_StepMachineModel_state, if_neg c_1_0, if_neg c_1_1, if_neg c_1_2, if_neg c_1_3, if_neg c_1_4, if_neg c_1_5, if_neg c_1_6, if_pos c_1_7], ht⟩) (fun q h => by cases h) d_M_state_96
                · skip
                  by_cases c_1_8 : x0 = 8
                  · skip
                    refine lv_tableIn (tgt := 97) hx hb d_M_state_1 (by rw [c_1_8]; decide) (by rw [c_1_8]; decide) (by rw [c_1_8] <;> rfl) (by decide) ?_
                    refine lv_aload_n hx hb d_M_state_97 rfl (lv_at hl 0 rfl) ?_
                    refine va_get (D := D) (ci := 9) (v := .int m_hc) (C := "StepMachineModel") (T := TX9) (N := 29) hx hb hts inU_9 hown hK hP 0 rfl rfl 9 (by decide) (hts _ a_642) (fun _ h9 => h9) rfl d_M_state_98 ?_
                    exact W.iret (v := m_hc) hx hb hr (fun t ht hW => ⟨_, rfl, by rw [mF_StepMachineModel_state, if_neg c_1_0, if_neg c_1_1, if_neg c_1_2, if_neg c_1_3, if_neg c_1_4, if_neg c_1_5, if_neg c_1_6, if_neg c_1_7, if_pos c_1_8], ht⟩) (fun q h => by cases h) d_M_state_101
                  · skip
                    refine lv_tableOut (tgt := 102) hx hb d_M_state_1 (by have n_0 := lv_neT (a := 0) c_1_0 (by decide); have n_1 := lv_neT (a := 1) c_1_1 (by decide); have n_2 := lv_neT (a := 2) c_1_2 (by decide); have n_3 := lv_neT (a := 3) c_1_3 (by decide); have n_4 := lv_neT (a := 4) c_1_4 (by decide); have n_5 := lv_neT (a := 5) c_1_5 (by decide); have n_6 := lv_neT (a := 6) c_1_6 (by decide); have n_7 := lv_neT (a := 7) c_1_7 (by decide); have n_8 := lv_neT (a := 8) c_1_8 (by decide); omega) (by decide) ?_
                    refine lv_iconst (v := (-1)) hx hb d_M_state_102 (by decide) ?_
                    exact W.iret (v := (-1)) hx hb hr (fun t ht hW => ⟨_, rfl, by rw [mF_StepMachineModel_state, if_neg c_1_0, if_neg c_1_1, if_neg c_1_2, if_neg c_1_3, if_neg c_1_4, if_neg c_1_5, if_neg c_1_6, if_neg c_1_7, if_neg c_1_8], ht⟩) (fun q h => by cases h) d_M_state_103
def mF_StepMachineModel_output (m_put : Int32) (m_out : Nat → Int32) (x0 : Int32) : Int32 := (if x0 < 0 then (-1) else (if m_put ≤ x0 then (-1) else (m_out x0.toNatClampNeg)))
set_option maxHeartbeats 4000000 in
set_option maxRecDepth 100000 in
theorem mc_StepMachineModel_output (l : Launch) (D : va_G) (tc : Nat → ClassId) (tb : Nat → Nat) (z0 : Nat) (b_x b_out b_row b_part b_mem b_mrk b_sf b_ss b_sr b_h b_r b_in b_k : Nat) (m_on : Int32) (m_hc : Int32) (m_pc : Int32) (m_giv : Int32) (m_tak : Int32) (m_put : Int32) (m_st : Int32) (m_cu : Int32) (m_va : Int32) (m_sp : Int32) (m_un : Int32) (m_kc : Int32) (m_kn : Int32) (m_by : Int32) (m_kd : Int32) (m_tg : Int32) (m_ju : Int32) (m_out : Nat → Int32) (x0 : Int32) (hp2 : 0 ≤ m_put.toInt ∧ m_put.toInt ≤ 2000) : Met l y_M_output (wM y_M_output b_M_output 2 (some .int)) ({ frames := 0, cells := 0, slots := 0, locals := 0 }) (va_Pc [.ref b_x, .int x0] (Pr D tc tb z0 [(b_x, .inr (9, [.ref b_row, .ref b_part, .ref b_mem, .ref b_mrk, .ref b_sf, .ref b_ss, .ref b_sr, .int m_on, .ref b_h, .int m_hc, .ref b_r, .int m_pc, .ref b_in, .int m_giv, .int m_tak, .ref b_out, .int m_put, .int m_st, .int m_cu, .int m_va, .int m_sp, .int m_un, .ref b_k, .int m_kc, .int m_kn, .int m_by, .int m_kd, .int m_tg, .int m_ju])), (b_out, .inl (tc 0, 2000, .inl m_out))])) (vp_Si (fun r => r = (mF_StepMachineModel_output m_put m_out x0))) 0 0 (fun _ => False) := by
  refine Met.ofW (cc := b_M_output) (maxL := 2) (ret := (some .int)) (by decide) rfl ?_
  intro p e s m args below meth c s₁ B hml hv
  obtain ⟨rfl, hP, hK, hB⟩ := hv
  have hx := B.exec
  have hb := B.bytes
  have hr := B.returns
  have hts : ∀ w ∈ wALL, w.before _ s = true := fun w h => atoms_spec (ws := (wM y_M_output b_M_output 2 (some .int))) B.pre w (List.mem_cons_of_mem _ h)
  have hown : s.vm.findClass "StepMachineModel" = some m.cls := findClass_of_methodNamed B.named
  have hlocks := B.notSynchronized
  have hl := lv_entry ([.ref b_x, .int x0]) (n := 2) (Nat.le_of_ble_eq_true rfl)
  rw [lg_entry_eq]
  generalize (lg_sl ([.ref b_x, .int x0]) ++ List.replicate (2 - (lg_sl ([.ref b_x, .int x0])).length) Slot.unset).toArray = ls at hl ⊢
  have hl : lv_has ls 2 [(0, .ref b_x), (1, .int x0)] := hl
  refine lv_iload_n hx hb d_M_output_0 rfl (lv_at hl 1 rfl) ?_
  refine lv_if_lt (tgt := 21) hx hb d_M_output_1 (by decide) (fun c_1 => ?_) (fun c_1 => ?_)
  · skip
    refine lv_iconst (v := (-1)) hx hb d_M_output_21 (by decide) ?_
    exact W.iret (v := (-1)) hx hb hr (fun t ht hW => ⟨_, rfl, by rw [mF_StepMachineModel_output, if_pos c_1], ht⟩) (fun q h => by cases h) d_M_output_22
  · skip
    refine lv_iload_n hx hb d_M_output_4 rfl (lv_at hl 1 rfl) ?_
    refine lv_aload_n hx hb d_M_output_5 rfl (lv_at hl 0 rfl) ?_
    refine va_get (D := D) (ci := 9) (v := .int m_put) (C := "StepMachineModel") (T := TX9) (N := 29) hx hb hts inU_9 hown hK hP 0 rfl rfl 16 (by decide) (hts _ a_649) (fun _ h9 => h9) rfl d_M_output_6 ?_
    refine lv_icmp_ge (tgt := 21) hx hb d_M_output_9 (by decide) (fun c_9 => ?_) (fun c_9 => ?_)
    · skip
      refine lv_iconst (v := (-1)) hx hb d_M_output_21 (by decide) ?_
      exact W.iret (v := (-1)) hx hb hr (fun t ht hW => ⟨_, rfl, by rw [mF_StepMachineModel_output, if_neg c_1, if_pos c_9], ht⟩) (fun q h => by cases h) d_M_output_22
    · skip
      refine lv_aload_n hx hb d_M_output_12 rfl (lv_at hl 0 rfl) ?_
      refine va_get (D := D) (ci := 9) (v := .ref b_out) (C := "StepMachineModel") (T := TX9) (N := 29) hx hb hts inU_9 hown hK hP 0 rfl rfl 15 (by decide) (hts _ a_648) (fun _ h9 => h9) rfl d_M_output_13 ?_
      refine lv_iload_n hx hb d_M_output_16 rfl (lv_at hl 1 rfl) ?_
      refine va_iald hx hb hK hP 1 0 rfl rfl (in_out c_1 c_9 hp2.2) d_M_output_17 ?_
      refine lv_goto (tgt := 22) hx hb d_M_output_18 (by decide) ?_
      exact W.iret (v := (m_out x0.toNatClampNeg)) hx hb hr (fun t ht hW => ⟨_, rfl, by rw [mF_StepMachineModel_output, if_neg c_1, if_neg c_9], ht⟩) (fun q h => by cases h) d_M_output_22
def mF_StepMachineModel_rights (m_sf : Nat → Int32) (m_ss : Nat → Int32) (m_sr : Nat → Int32) (m_mrk : Nat → Int32) (x0 : Int32) : Int32 := (if (mF_StepMachineModel_isMarked m_mrk x0.toInt64) = 0 then ((mF_StepMachineModel_rightsOf m_sf m_ss m_sr x0.toInt64) + 0) else ((mF_StepMachineModel_rightsOf m_sf m_ss m_sr x0.toInt64) + 8))
set_option maxHeartbeats 4000000 in
set_option maxRecDepth 100000 in
theorem mc_StepMachineModel_rights (l : Launch) (D : va_G) (tc : Nat → ClassId) (tb : Nat → Nat) (z0 : Nat) (b_x b_sf b_ss b_sr b_mrk b_row b_part b_mem b_h b_r b_in b_out b_k : Nat) (m_on : Int32) (m_hc : Int32) (m_pc : Int32) (m_giv : Int32) (m_tak : Int32) (m_put : Int32) (m_st : Int32) (m_cu : Int32) (m_va : Int32) (m_sp : Int32) (m_un : Int32) (m_kc : Int32) (m_kn : Int32) (m_by : Int32) (m_kd : Int32) (m_tg : Int32) (m_ju : Int32) (m_sf : Nat → Int32) (m_ss : Nat → Int32) (m_sr : Nat → Int32) (m_mrk : Nat → Int32) (x0 : Int32) : Met l y_M_rights (wM y_M_rights b_M_rights 2 (some .int)) ({ frames := 1, cells := 0, slots := 0, locals := 23 }) (va_Pc [.ref b_x, .int x0] (Pr D tc tb z0 [(b_x, .inr (9, [.ref b_row, .ref b_part, .ref b_mem, .ref b_mrk, .ref b_sf, .ref b_ss, .ref b_sr, .int m_on, .ref b_h, .int m_hc, .ref b_r, .int m_pc, .ref b_in, .int m_giv, .int m_tak, .ref b_out, .int m_put, .int m_st, .int m_cu, .int m_va, .int m_sp, .int m_un, .ref b_k, .int m_kc, .int m_kn, .int m_by, .int m_kd, .int m_tg, .int m_ju])), (b_sf, .inl (tc 0, 8, .inl m_sf)), (b_ss, .inl (tc 0, 8, .inl m_ss)), (b_sr, .inl (tc 0, 8, .inl m_sr)), (b_mrk, .inl (tc 2, 65536, .inl m_mrk))])) (vp_Si (fun r => r = (mF_StepMachineModel_rights m_sf m_ss m_sr m_mrk x0))) 0 0 (fun _ => False) := by
  refine Met.ofW (cc := b_M_rights) (maxL := 2) (ret := (some .int)) (by decide) rfl ?_
  intro p e s m args below meth c s₁ B hml hv
  obtain ⟨rfl, hP, hK, hB⟩ := hv
  have hx := B.exec
  have hb := B.bytes
  have hr := B.returns
  have hts : ∀ w ∈ wALL, w.before _ s = true := fun w h => atoms_spec (ws := (wM y_M_rights b_M_rights 2 (some .int))) B.pre w (List.mem_cons_of_mem _ h)
  have hown : s.vm.findClass "StepMachineModel" = some m.cls := findClass_of_methodNamed B.named
  have hlocks := B.notSynchronized
  have hl := lv_entry ([.ref b_x, .int x0]) (n := 2) (Nat.le_of_ble_eq_true rfl)
  rw [lg_entry_eq]
  generalize (lg_sl ([.ref b_x, .int x0]) ++ List.replicate (2 - (lg_sl ([.ref b_x, .int x0])).length) Slot.unset).toArray = ls at hl ⊢
  have hl : lv_has ls 2 [(0, .ref b_x), (1, .int x0)] := hl
  refine lv_aload_n hx hb d_M_rights_0 rfl (lv_at hl 0 rfl) ?_
  refine lv_iload_n hx hb d_M_rights_1 rfl (lv_at hl 1 rfl) ?_
  refine lv_i2l (v := x0.toInt64) hx hb d_M_rights_2 rfl ?_
  refine roVi (As := [.long x0.toInt64]) (rest := []) ⟨hx, hb, hml, hown, hts⟩ (mc_StepMachineModel_rightsOf l D tc tb z0 b_x b_sf b_ss b_sr b_row b_part b_mem b_mrk b_h b_r b_in b_out b_k m_on m_hc m_pc m_giv m_tak m_put m_st m_cu m_va m_sp m_un m_kc m_kn m_by m_kd m_tg m_ju m_sf m_ss m_sr x0.toInt64) (cwV 1 hts (goodV a_760 a_761 a_924 a_10 a_762) rfl rfl rfl hv_M_rightsOf ⟨Nat.le_of_ble_eq_true rfl, Nat.le_of_ble_eq_true rfl⟩) (hP.sub [0, 1, 2, 3] rfl) hK hB rfl rfl rfl hl.1 rfl (Nat.le_of_ble_eq_true rfl) d_M_rights_3 ⟨Nat.zero_le _, Nat.zero_le _⟩ ?_
  refine lv_aload_n hx hb d_M_rights_6 rfl (lv_at hl 0 rfl) ?_
  refine lv_iload_n hx hb d_M_rights_7 rfl (lv_at hl 1 rfl) ?_
  refine lv_i2l (v := x0.toInt64) hx hb d_M_rights_8 rfl ?_
  refine roVi (As := [.long x0.toInt64]) (rest := [.int (mF_StepMachineModel_rightsOf m_sf m_ss m_sr x0.toInt64)]) ⟨hx, hb, hml, hown, hts⟩ (mc_StepMachineModel_isMarked l D tc tb z0 b_x b_mrk b_row b_part b_mem b_sf b_ss b_sr b_h b_r b_in b_out b_k m_on m_hc m_pc m_giv m_tak m_put m_st m_cu m_va m_sp m_un m_kc m_kn m_by m_kd m_tg m_ju m_mrk x0.toInt64) (cwV 1 hts (goodV a_750 a_751 a_921 a_10 a_752) rfl rfl rfl hv_M_isMarked ⟨Nat.le_of_ble_eq_true rfl, Nat.le_of_ble_eq_true rfl⟩) (hP.sub [0, 4] rfl) hK hB rfl rfl rfl hl.1 rfl (Nat.le_of_ble_eq_true rfl) d_M_rights_9 ⟨Nat.zero_le _, Nat.zero_le _⟩ ?_
  refine lv_if_eq (tgt := 20) hx hb d_M_rights_12 (by decide) (fun c_12 => ?_) (fun c_12 => ?_)
  · skip
    refine lv_iconst (v := 0) hx hb d_M_rights_20 (by decide) ?_
    refine lv_iadd hx hb d_M_rights_21 ?_
    exact W.iret (v := ((mF_StepMachineModel_rightsOf m_sf m_ss m_sr x0.toInt64) + 0)) hx hb hr (fun t ht hW => ⟨_, rfl, by rw [mF_StepMachineModel_rights, if_pos c_12], ht⟩) (fun q h => by cases h) d_M_rights_22
  · skip
    refine lv_bipush (v := 8) hx hb d_M_rights_15 (by decide) ?_
    refine lv_goto (tgt := 21) hx hb d_M_rights_17 (by decide) ?_
    refine lv_iadd hx hb d_M_rights_21 ?_
    exact W.iret (v := ((mF_StepMachineModel_rightsOf m_sf m_ss m_sr x0.toInt64) + 8)) hx hb hr (fun t ht hW => ⟨_, rfl, by rw [mF_StepMachineModel_rights, if_neg c_12], ht⟩) (fun q h => by cases h) d_M_rights_22
def mF_StepMachineModel_isUnit (m_on : Int32) (m_pc : Int32) (m_mrk : Nat → Int32) : Int32 := (if m_on = 0 then 1 else (if (mF_StepMachineModel_isMarked m_mrk (mF_StepMachineModel_bare m_pc)) = 0 then 0 else 1))
set_option maxHeartbeats 4000000 in
set_option maxRecDepth 100000 in
theorem mc_StepMachineModel_isUnit (l : Launch) (D : va_G) (tc : Nat → ClassId) (tb : Nat → Nat) (z0 : Nat) (b_x b_mrk b_row b_part b_mem b_sf b_ss b_sr b_h b_r b_in b_out b_k : Nat) (m_on : Int32) (m_hc : Int32) (m_pc : Int32) (m_giv : Int32) (m_tak : Int32) (m_put : Int32) (m_st : Int32) (m_cu : Int32) (m_va : Int32) (m_sp : Int32) (m_un : Int32) (m_kc : Int32) (m_kn : Int32) (m_by : Int32) (m_kd : Int32) (m_tg : Int32) (m_ju : Int32) (m_mrk : Nat → Int32) : Met l y_M_isUnit (wM y_M_isUnit b_M_isUnit 1 (some .boolean)) ({ frames := 1, cells := 0, slots := 0, locals := 22 }) (va_Pc [.ref b_x] (Pr D tc tb z0 [(b_x, .inr (9, [.ref b_row, .ref b_part, .ref b_mem, .ref b_mrk, .ref b_sf, .ref b_ss, .ref b_sr, .int m_on, .ref b_h, .int m_hc, .ref b_r, .int m_pc, .ref b_in, .int m_giv, .int m_tak, .ref b_out, .int m_put, .int m_st, .int m_cu, .int m_va, .int m_sp, .int m_un, .ref b_k, .int m_kc, .int m_kn, .int m_by, .int m_kd, .int m_tg, .int m_ju])), (b_mrk, .inl (tc 2, 65536, .inl m_mrk))])) (vp_Si (fun r => r = (mF_StepMachineModel_isUnit m_on m_pc m_mrk))) 0 0 (fun _ => False) := by
  refine Met.ofW (cc := b_M_isUnit) (maxL := 1) (ret := (some .boolean)) (by decide) rfl ?_
  intro p e s m args below meth c s₁ B hml hv
  obtain ⟨rfl, hP, hK, hB⟩ := hv
  have hx := B.exec
  have hb := B.bytes
  have hr := B.returns
  have hts : ∀ w ∈ wALL, w.before _ s = true := fun w h => atoms_spec (ws := (wM y_M_isUnit b_M_isUnit 1 (some .boolean))) B.pre w (List.mem_cons_of_mem _ h)
  have hown : s.vm.findClass "StepMachineModel" = some m.cls := findClass_of_methodNamed B.named
  have hlocks := B.notSynchronized
  have hl := lv_entry ([.ref b_x]) (n := 1) (Nat.le_of_ble_eq_true rfl)
  rw [lg_entry_eq]
  generalize (lg_sl ([.ref b_x]) ++ List.replicate (1 - (lg_sl ([.ref b_x])).length) Slot.unset).toArray = ls at hl ⊢
  have hl : lv_has ls 1 [(0, .ref b_x)] := hl
  refine lv_aload_n hx hb d_M_isUnit_0 rfl (lv_at hl 0 rfl) ?_
  refine va_get (D := D) (ci := 9) (v := .int m_on) (C := "StepMachineModel") (T := TX9) (N := 29) hx hb hts inU_9 hown hK hP 0 rfl rfl 7 (by decide) (hts _ a_640) (fun _ h9 => h9) rfl d_M_isUnit_1 ?_
  refine lv_if_eq (tgt := 21) hx hb d_M_isUnit_4 (by decide) (fun c_4 => ?_) (fun c_4 => ?_)
  · skip
    refine lv_iconst (v := 1) hx hb d_M_isUnit_21 (by decide) ?_
    refine lv_goto (tgt := 26) hx hb d_M_isUnit_22 (by decide) ?_
    exact W.zret (v := 1) hx hb hr rfl (fun t ht hW => ⟨_, rfl, by rw [mF_StepMachineModel_isUnit, if_pos c_4], ht⟩) (fun q h => by cases h) d_M_isUnit_26
  · skip
    refine lv_aload_n hx hb d_M_isUnit_7 rfl (lv_at hl 0 rfl) ?_
    refine lv_aload_n hx hb d_M_isUnit_8 rfl (lv_at hl 0 rfl) ?_
    refine va_get (D := D) (ci := 9) (v := .int m_pc) (C := "StepMachineModel") (T := TX9) (N := 29) hx hb hts inU_9 hown hK hP 0 rfl rfl 11 (by decide) (hts _ a_644) (fun _ h9 => h9) rfl d_M_isUnit_9 ?_
    refine roSl (As := [.int m_pc]) (rest := [.ref b_x]) ⟨hx, hb, hml, hown, hts⟩ (mc_StepMachineModel_bare l D tc tb z0 m_pc) (va_cwS 1 hts (goodS a_746 a_747 a_10 a_748) rfl rfl rfl hs_M_bare ⟨Nat.le_of_ble_eq_true rfl, Nat.le_of_ble_eq_true rfl⟩) (hP.sub [] rfl) hK hB rfl hl.1 rfl (Nat.le_of_ble_eq_true rfl) d_M_isUnit_12 ⟨Nat.zero_le _, Nat.zero_le _⟩ ?_
    refine roVi (As := [.long (mF_StepMachineModel_bare m_pc)]) (rest := []) ⟨hx, hb, hml, hown, hts⟩ (mc_StepMachineModel_isMarked l D tc tb z0 b_x b_mrk b_row b_part b_mem b_sf b_ss b_sr b_h b_r b_in b_out b_k m_on m_hc m_pc m_giv m_tak m_put m_st m_cu m_va m_sp m_un m_kc m_kn m_by m_kd m_tg m_ju m_mrk (mF_StepMachineModel_bare m_pc)) (cwV 1 hts (goodV a_750 a_751 a_921 a_10 a_752) rfl rfl rfl hv_M_isMarked ⟨Nat.le_of_ble_eq_true rfl, Nat.le_of_ble_eq_true rfl⟩) (hP.sub [0, 1] rfl) hK hB rfl rfl rfl hl.1 rfl (Nat.le_of_ble_eq_true rfl) d_M_isUnit_15 ⟨Nat.zero_le _, Nat.zero_le _⟩ ?_
    refine lv_if_eq (tgt := 25) hx hb d_M_isUnit_18 (by decide) (fun c_18 => ?_) (fun c_18 => ?_)
    · skip
      refine lv_iconst (v := 0) hx hb d_M_isUnit_25 (by decide) ?_
      exact W.zret (v := 0) hx hb hr rfl (fun t ht hW => ⟨_, rfl, by rw [mF_StepMachineModel_isUnit, if_neg c_4, if_pos c_18], ht⟩) (fun q h => by cases h) d_M_isUnit_26
    · skip
      refine lv_iconst (v := 1) hx hb d_M_isUnit_21 (by decide) ?_
      refine lv_goto (tgt := 26) hx hb d_M_isUnit_22 (by decide) ?_
      exact W.zret (v := 1) hx hb hr rfl (fun t ht hW => ⟨_, rfl, by rw [mF_StepMachineModel_isUnit, if_neg c_4, if_neg c_18], ht⟩) (fun q h => by cases h) d_M_isUnit_26
