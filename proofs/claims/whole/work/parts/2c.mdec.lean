def mF_StepMachineModel_has_L5 (x0 : Int32) (x1 : Int32) : Nat → Int32 → Int32
  | 0, k_5 => 0
  | n_ + 1, k_5 => (if ((32 * x0) + (mF_StepMachineModel_bitsOf x0)) ≤ k_5 then 0 else (if (rowT k_5.toNatClampNeg) ≤ 1 then ((mF_StepMachineModel_has_L5 x0 x1 n_) (k_5 + 1)) else (if (((rowT k_5.toNatClampNeg) / 100) - 1) ≤ 3 then (if (((rowT k_5.toNatClampNeg) / 100) - 1) = x1 then 1 else ((mF_StepMachineModel_has_L5 x0 x1 n_) (k_5 + 1))) else (if ((((rowT k_5.toNatClampNeg) / 100) - 1) - 4) = x1 then 1 else ((mF_StepMachineModel_has_L5 x0 x1 n_) (k_5 + 1))))))
def mF_StepMachineModel_has (x0 : Int32) (x1 : Int32) : Int32 := (mF_StepMachineModel_has_L5 x0 x1 ((((32 * x0) + (mF_StepMachineModel_bitsOf x0)).toInt - (32 * x0).toInt).toNat + 1) (32 * x0))
set_option maxHeartbeats 4000000 in
set_option maxRecDepth 100000 in
theorem mc_StepMachineModel_has (l : Launch) (D : va_G) (tc : Nat → ClassId) (tb : Nat → Nat) (z0 : Nat) (b_x b_row b_part b_mem b_mrk b_sf b_ss b_sr b_h b_r b_in b_out b_k : Nat) (m_on : Int32) (m_hc : Int32) (m_pc : Int32) (m_giv : Int32) (m_tak : Int32) (m_put : Int32) (m_st : Int32) (m_cu : Int32) (m_va : Int32) (m_sp : Int32) (m_un : Int32) (m_kc : Int32) (m_kn : Int32) (m_by : Int32) (m_kd : Int32) (m_tg : Int32) (m_ju : Int32) (x0 : Int32) (x1 : Int32) (hk : 0 ≤ x0.toInt ∧ x0.toInt < 75) : Met l y_M_has (wM y_M_has b_M_has 5 (some .boolean)) ({ frames := 1, cells := 0, slots := 0, locals := 20 }) (va_Pc [.ref b_x, .int x0, .int x1] (Pr D tc tb z0 [(b_x, .inr (9, [.ref b_row, .ref b_part, .ref b_mem, .ref b_mrk, .ref b_sf, .ref b_ss, .ref b_sr, .int m_on, .ref b_h, .int m_hc, .ref b_r, .int m_pc, .ref b_in, .int m_giv, .int m_tak, .ref b_out, .int m_put, .int m_st, .int m_cu, .int m_va, .int m_sp, .int m_un, .ref b_k, .int m_kc, .int m_kn, .int m_by, .int m_kd, .int m_tg, .int m_ju])), (b_row, .inl (tc 0, 2400, .inl rowT))])) (vp_Si (fun r => r = (mF_StepMachineModel_has x0 x1))) 0 0 (fun _ => False) := by
  refine Met.ofW (cc := b_M_has) (maxL := 5) (ret := (some .boolean)) (by decide) rfl ?_
  intro p e s m args below meth c s₁ B hml hv
  obtain ⟨rfl, hP, hK, hB⟩ := hv
  have hx := B.exec
  have hb := B.bytes
  have hr := B.returns
  have hts : ∀ w ∈ wALL, w.before _ s = true := fun w h => atoms_spec (ws := (wM y_M_has b_M_has 5 (some .boolean))) B.pre w (List.mem_cons_of_mem _ h)
  have hown : s.vm.findClass "StepMachineModel" = some m.cls := findClass_of_methodNamed B.named
  have hlocks := B.notSynchronized
  have hl := lv_entry ([.ref b_x, .int x0, .int x1]) (n := 5) (Nat.le_of_ble_eq_true rfl)
  rw [lg_entry_eq]
  generalize (lg_sl ([.ref b_x, .int x0, .int x1]) ++ List.replicate (5 - (lg_sl ([.ref b_x, .int x0, .int x1])).length) Slot.unset).toArray = ls at hl ⊢
  have hl : lv_has ls 5 [(0, .ref b_x), (1, .int x0), (2, .int x1)] := hl
  refine lv_bipush (v := 32) hx hb d_M_has_0 (by decide) ?_
  refine lv_iload_n hx hb d_M_has_2 rfl (lv_at hl 1 rfl) ?_
  refine lv_imul hx hb d_M_has_3 ?_
  refine lv_istore_n (lv' := [(3, .int (32 * x0)), (0, .ref b_x), (1, .int x0), (2, .int x1)]) hx hb d_M_has_4 rfl hl (by decide) rfl (fun ls hl => ?_)
  have loop_5 : ∀ (n_5 : Nat) (k_5 : Int32) (ls : Array Slot), (0 ≤ k_5.toInt) → (((32 * x0) + (mF_StepMachineModel_bitsOf x0)).toInt - k_5.toInt).toNat < n_5 → (mF_StepMachineModel_has_L5 x0 x1 n_5 k_5) = (mF_StepMachineModel_has x0 x1) → lv_has ls 5 [(3, .int k_5), (0, .ref b_x), (1, .int x0), (2, .int x1)] → W p l e (headSpec (wM y_M_has b_M_has 5 (some .boolean)) ({ frames := 1, cells := 0, slots := 0, locals := 20 })).room s m ([.ref b_x, .int x0, .int x1]).toArray below meth c s.heap [] 0 0 (MQ below (vp_Si (fun r => r = (mF_StepMachineModel_has x0 x1))) ([.ref b_x, .int x0, .int x1]).toArray s 0 0 (fun _ => False)) (F0 m 5 ls []) := by
    intro n_5
    induction n_5 with
    | zero =>
      intro k_5 ls hq hm
      exact absurd hm (Nat.not_lt_zero _)
    | succ n_5 ih_5 =>
      intro k_5 ls hq hm_5 hF_5 hl
      refine lv_iload_n hx hb d_M_has_5 rfl (lv_at hl 0 rfl) ?_
      refine lv_bipush (v := 32) hx hb d_M_has_6 (by decide) ?_
      refine lv_iload_n hx hb d_M_has_8 rfl (lv_at hl 2 rfl) ?_
      refine lv_imul hx hb d_M_has_9 ?_
      refine lv_iload_n hx hb d_M_has_10 rfl (lv_at hl 2 rfl) ?_
      refine roSi (As := [.int x0]) (rest := [.int (32 * x0), .int k_5]) ⟨hx, hb, hml, hown, hts⟩ (mc_StepMachineModel_bitsOf l D tc tb z0 x0) (va_cwS 1 hts (goodS a_782 a_783 a_10 a_784) rfl rfl rfl hs_M_bitsOf ⟨Nat.le_of_ble_eq_true rfl, Nat.le_of_ble_eq_true rfl⟩) (hP.sub [] rfl) hK hB rfl hl.1 rfl (Nat.le_of_ble_eq_true rfl) d_M_has_11 ⟨Nat.zero_le _, Nat.zero_le _⟩ ?_
      refine lv_iadd hx hb d_M_has_14 ?_
      refine lv_icmp_ge (tgt := 68) hx hb d_M_has_15 (by decide) (fun c_15 => ?_) (fun c_15 => ?_)
      · skip
        refine lv_iconst (v := 0) hx hb d_M_has_68 (by decide) ?_
        exact W.zret (v := 0) hx hb hr rfl (fun t ht hW => ⟨_, rfl, by rw [← hF_5, mF_StepMachineModel_has_L5, if_pos c_15], ht⟩) (fun q h => by cases h) d_M_has_69
      · skip
        refine lv_aload_n hx hb d_M_has_18 rfl (lv_at hl 1 rfl) ?_
        refine va_get (D := D) (ci := 9) (v := .ref b_row) (C := "StepMachineModel") (T := TX9) (N := 29) hx hb hts inU_9 hown hK hP 0 rfl rfl 0 (by decide) (hts _ a_633) (fun _ h9 => h9) rfl d_M_has_19 ?_
        refine lv_iload_n hx hb d_M_has_22 rfl (lv_at hl 0 rfl) ?_
        refine va_iald hx hb hK hP 1 0 rfl rfl (ob_row1 hk c_15 hq) d_M_has_23 ?_
        refine lv_bipush (v := 100) hx hb d_M_has_24 (by decide) ?_
        refine lv_idiv hx hb d_M_has_26 (by decide) ?_
        refine lv_iconst (v := 1) hx hb d_M_has_27 (by decide) ?_
        refine lv_isub hx hb d_M_has_28 ?_
        refine lv_istore (lv' := [(4, .int (((rowT k_5.toNatClampNeg) / 100) - 1)), (3, .int k_5), (0, .ref b_x), (1, .int x0), (2, .int x1)]) hx hb d_M_has_29 hl (by decide) rfl (fun ls hl => ?_)
        refine lv_aload_n hx hb d_M_has_31 rfl (lv_at hl 2 rfl) ?_
        refine va_get (D := D) (ci := 9) (v := .ref b_row) (C := "StepMachineModel") (T := TX9) (N := 29) hx hb hts inU_9 hown hK hP 0 rfl rfl 0 (by decide) (hts _ a_633) (fun _ h9 => h9) rfl d_M_has_32 ?_
        refine lv_iload_n hx hb d_M_has_35 rfl (lv_at hl 1 rfl) ?_
        refine va_iald hx hb hK hP 1 0 rfl rfl (ob_row1 hk c_15 hq) d_M_has_36 ?_
        refine lv_iconst (v := 1) hx hb d_M_has_37 (by decide) ?_
        refine lv_icmp_le (tgt := 62) hx hb d_M_has_38 (by decide) (fun c_38 => ?_) (fun c_38 => ?_)
        · skip
          refine lv_iinc (v := (k_5 + 1)) (lv' := [(3, .int (k_5 + 1)), (4, .int (((rowT k_5.toNatClampNeg) / 100) - 1)), (0, .ref b_x), (1, .int x0), (2, .int x1)]) hx hb d_M_has_62 hl (k := 1) rfl rfl (by decide) rfl (fun ls hl => ?_)
          refine lv_goto (tgt := 5) hx hb d_M_has_65 (by decide) ?_
          exact ih_5 (k_5 + 1) ls (st_nn c_15 hq) (ms_step c_15 hm_5) (by rw [← hF_5, mF_StepMachineModel_has_L5, if_neg c_15, if_pos c_38]) (lv_sub hl [0, 2, 3, 4] rfl)
        · skip
          refine lv_iload hx hb d_M_has_41 (lv_at hl 0 rfl) ?_
          refine lv_iconst (v := 3) hx hb d_M_has_43 (by decide) ?_
          refine lv_icmp_le (tgt := 54) hx hb d_M_has_44 (by decide) (fun c_44 => ?_) (fun c_44 => ?_)
          · skip
            refine lv_iload hx hb d_M_has_54 (lv_at hl 0 rfl) ?_
            refine lv_iload_n hx hb d_M_has_56 rfl (lv_at hl 4 rfl) ?_
            refine lv_icmp_ne (tgt := 62) hx hb d_M_has_57 (by decide) (fun c_57 => ?_) (fun c_57 => ?_)
            · skip
              refine lv_iinc (v := (k_5 + 1)) (lv' := [(3, .int (k_5 + 1)), (4, .int (((rowT k_5.toNatClampNeg) / 100) - 1)), (0, .ref b_x), (1, .int x0), (2, .int x1)]) hx hb d_M_has_62 hl (k := 1) rfl rfl (by decide) rfl (fun ls hl => ?_)
              refine lv_goto (tgt := 5) hx hb d_M_has_65 (by decide) ?_
              exact ih_5 (k_5 + 1) ls (st_nn c_15 hq) (ms_step c_15 hm_5) (by rw [← hF_5, mF_StepMachineModel_has_L5, if_neg c_15, if_neg c_38, if_pos c_44, if_neg c_57]) (lv_sub hl [0, 2, 3, 4] rfl)
            · skip
              refine lv_iconst (v := 1) hx hb d_M_has_60 (by decide) ?_
              exact W.zret (v := 1) hx hb hr rfl (fun t ht hW => ⟨_, rfl, by rw [← hF_5, mF_StepMachineModel_has_L5, if_neg c_15, if_neg c_38, if_pos c_44, if_pos c_57], ht⟩) (fun q h => by cases h) d_M_has_61
          · skip
            refine lv_iload hx hb d_M_has_47 (lv_at hl 0 rfl) ?_
            refine lv_iconst (v := 4) hx hb d_M_has_49 (by decide) ?_
            refine lv_isub hx hb d_M_has_50 ?_
            refine lv_goto (tgt := 56) hx hb d_M_has_51 (by decide) ?_
            refine lv_iload_n hx hb d_M_has_56 rfl (lv_at hl 4 rfl) ?_
            refine lv_icmp_ne (tgt := 62) hx hb d_M_has_57 (by decide) (fun c_57 => ?_) (fun c_57 => ?_)
            · skip
              refine lv_iinc (v := (k_5 + 1)) (lv' := [(3, .int (k_5 + 1)), (4, .int (((rowT k_5.toNatClampNeg) / 100) - 1)), (0, .ref b_x), (1, .int x0), (2, .int x1)]) hx hb d_M_has_62 hl (k := 1) rfl rfl (by decide) rfl (fun ls hl => ?_)
              refine lv_goto (tgt := 5) hx hb d_M_has_65 (by decide) ?_
              exact ih_5 (k_5 + 1) ls (st_nn c_15 hq) (ms_step c_15 hm_5) (by rw [← hF_5, mF_StepMachineModel_has_L5, if_neg c_15, if_neg c_38, if_neg c_44, if_neg c_57]) (lv_sub hl [0, 2, 3, 4] rfl)
            · skip
              refine lv_iconst (v := 1) hx hb d_M_has_60 (by decide) ?_
              exact W.zret (v := 1) hx hb hr rfl (fun t ht hW => ⟨_, rfl, by rw [← hF_5, mF_StepMachineModel_has_L5, if_neg c_15, if_neg c_38, if_neg c_44, if_pos c_57], ht⟩) (fun q h => by cases h) d_M_has_61
  exact loop_5 ((((32 * x0) + (mF_StepMachineModel_bitsOf x0)).toInt - (32 * x0).toInt).toNat + 1) (32 * x0) ls (nn_32 hk) (Nat.lt_succ_self _) (by rw [mF_StepMachineModel_has]) (lv_sub hl [0, 1, 2, 3] rfl)
def mF_StepMachineModel_isShortPart_L5 (x0 : Int32) (x1 : Int32) : Nat → Int32 → Int32
  | 0, k_5 => 0
  | n_ + 1, k_5 => (if ((32 * x0) + (mF_StepMachineModel_bitsOf x0)) ≤ k_5 then 0 else (if (((rowT k_5.toNatClampNeg) / 100) - 5) = x1 then 1 else ((mF_StepMachineModel_isShortPart_L5 x0 x1 n_) (k_5 + 1))))
def mF_StepMachineModel_isShortPart (x0 : Int32) (x1 : Int32) : Int32 := (mF_StepMachineModel_isShortPart_L5 x0 x1 ((((32 * x0) + (mF_StepMachineModel_bitsOf x0)).toInt - (32 * x0).toInt).toNat + 1) (32 * x0))
set_option maxHeartbeats 4000000 in
set_option maxRecDepth 100000 in
theorem mc_StepMachineModel_isShortPart (l : Launch) (D : va_G) (tc : Nat → ClassId) (tb : Nat → Nat) (z0 : Nat) (b_x b_row b_part b_mem b_mrk b_sf b_ss b_sr b_h b_r b_in b_out b_k : Nat) (m_on : Int32) (m_hc : Int32) (m_pc : Int32) (m_giv : Int32) (m_tak : Int32) (m_put : Int32) (m_st : Int32) (m_cu : Int32) (m_va : Int32) (m_sp : Int32) (m_un : Int32) (m_kc : Int32) (m_kn : Int32) (m_by : Int32) (m_kd : Int32) (m_tg : Int32) (m_ju : Int32) (x0 : Int32) (x1 : Int32) (hk : 0 ≤ x0.toInt ∧ x0.toInt < 75) : Met l y_M_isShortPart (wM y_M_isShortPart b_M_isShortPart 4 (some .boolean)) ({ frames := 1, cells := 0, slots := 0, locals := 20 }) (va_Pc [.ref b_x, .int x0, .int x1] (Pr D tc tb z0 [(b_x, .inr (9, [.ref b_row, .ref b_part, .ref b_mem, .ref b_mrk, .ref b_sf, .ref b_ss, .ref b_sr, .int m_on, .ref b_h, .int m_hc, .ref b_r, .int m_pc, .ref b_in, .int m_giv, .int m_tak, .ref b_out, .int m_put, .int m_st, .int m_cu, .int m_va, .int m_sp, .int m_un, .ref b_k, .int m_kc, .int m_kn, .int m_by, .int m_kd, .int m_tg, .int m_ju])), (b_row, .inl (tc 0, 2400, .inl rowT))])) (vp_Si (fun r => r = (mF_StepMachineModel_isShortPart x0 x1))) 0 0 (fun _ => False) := by
  refine Met.ofW (cc := b_M_isShortPart) (maxL := 4) (ret := (some .boolean)) (by decide) rfl ?_
  intro p e s m args below meth c s₁ B hml hv
  obtain ⟨rfl, hP, hK, hB⟩ := hv
  have hx := B.exec
  have hb := B.bytes
  have hr := B.returns
  have hts : ∀ w ∈ wALL, w.before _ s = true := fun w h => atoms_spec (ws := (wM y_M_isShortPart b_M_isShortPart 4 (some .boolean))) B.pre w (List.mem_cons_of_mem _ h)
  have hown : s.vm.findClass "StepMachineModel" = some m.cls := findClass_of_methodNamed B.named
  have hlocks := B.notSynchronized
  have hl := lv_entry ([.ref b_x, .int x0, .int x1]) (n := 4) (Nat.le_of_ble_eq_true rfl)
  rw [lg_entry_eq]
  generalize (lg_sl ([.ref b_x, .int x0, .int x1]) ++ List.replicate (4 - (lg_sl ([.ref b_x, .int x0, .int x1])).length) Slot.unset).toArray = ls at hl ⊢
  have hl : lv_has ls 4 [(0, .ref b_x), (1, .int x0), (2, .int x1)] := hl
  refine lv_bipush (v := 32) hx hb d_M_isShortPart_0 (by decide) ?_
  refine lv_iload_n hx hb d_M_isShortPart_2 rfl (lv_at hl 1 rfl) ?_
  refine lv_imul hx hb d_M_isShortPart_3 ?_
  refine lv_istore_n (lv' := [(3, .int (32 * x0)), (0, .ref b_x), (1, .int x0), (2, .int x1)]) hx hb d_M_isShortPart_4 rfl hl (by decide) rfl (fun ls hl => ?_)
  have loop_5 : ∀ (n_5 : Nat) (k_5 : Int32) (ls : Array Slot), (0 ≤ k_5.toInt) → (((32 * x0) + (mF_StepMachineModel_bitsOf x0)).toInt - k_5.toInt).toNat < n_5 → (mF_StepMachineModel_isShortPart_L5 x0 x1 n_5 k_5) = (mF_StepMachineModel_isShortPart x0 x1) → lv_has ls 4 [(3, .int k_5), (0, .ref b_x), (1, .int x0), (2, .int x1)] → W p l e (headSpec (wM y_M_isShortPart b_M_isShortPart 4 (some .boolean)) ({ frames := 1, cells := 0, slots := 0, locals := 20 })).room s m ([.ref b_x, .int x0, .int x1]).toArray below meth c s.heap [] 0 0 (MQ below (vp_Si (fun r => r = (mF_StepMachineModel_isShortPart x0 x1))) ([.ref b_x, .int x0, .int x1]).toArray s 0 0 (fun _ => False)) (F0 m 5 ls []) := by
    intro n_5
    induction n_5 with
    | zero =>
      intro k_5 ls hq hm
      exact absurd hm (Nat.not_lt_zero _)
    | succ n_5 ih_5 =>
      intro k_5 ls hq hm_5 hF_5 hl
      refine lv_iload_n hx hb d_M_isShortPart_5 rfl (lv_at hl 0 rfl) ?_
      refine lv_bipush (v := 32) hx hb d_M_isShortPart_6 (by decide) ?_
      refine lv_iload_n hx hb d_M_isShortPart_8 rfl (lv_at hl 2 rfl) ?_
      refine lv_imul hx hb d_M_isShortPart_9 ?_
      refine lv_iload_n hx hb d_M_isShortPart_10 rfl (lv_at hl 2 rfl) ?_
      refine roSi (As := [.int x0]) (rest := [.int (32 * x0), .int k_5]) ⟨hx, hb, hml, hown, hts⟩ (mc_StepMachineModel_bitsOf l D tc tb z0 x0) (va_cwS 1 hts (goodS a_782 a_783 a_10 a_784) rfl rfl rfl hs_M_bitsOf ⟨Nat.le_of_ble_eq_true rfl, Nat.le_of_ble_eq_true rfl⟩) (hP.sub [] rfl) hK hB rfl hl.1 rfl (Nat.le_of_ble_eq_true rfl) d_M_isShortPart_11 ⟨Nat.zero_le _, Nat.zero_le _⟩ ?_
      refine lv_iadd hx hb d_M_isShortPart_14 ?_
      refine lv_icmp_ge (tgt := 41) hx hb d_M_isShortPart_15 (by decide) (fun c_15 => ?_) (fun c_15 => ?_)
      · skip
        refine lv_iconst (v := 0) hx hb d_M_isShortPart_41 (by decide) ?_
        exact W.zret (v := 0) hx hb hr rfl (fun t ht hW => ⟨_, rfl, by rw [← hF_5, mF_StepMachineModel_isShortPart_L5, if_pos c_15], ht⟩) (fun q h => by cases h) d_M_isShortPart_42
      · skip
        refine lv_aload_n hx hb d_M_isShortPart_18 rfl (lv_at hl 1 rfl) ?_
        refine va_get (D := D) (ci := 9) (v := .ref b_row) (C := "StepMachineModel") (T := TX9) (N := 29) hx hb hts inU_9 hown hK hP 0 rfl rfl 0 (by decide) (hts _ a_633) (fun _ h9 => h9) rfl d_M_isShortPart_19 ?_
        refine lv_iload_n hx hb d_M_isShortPart_22 rfl (lv_at hl 0 rfl) ?_
        refine va_iald hx hb hK hP 1 0 rfl rfl (ob_row1 hk c_15 hq) d_M_isShortPart_23 ?_
        refine lv_bipush (v := 100) hx hb d_M_isShortPart_24 (by decide) ?_
        refine lv_idiv hx hb d_M_isShortPart_26 (by decide) ?_
        refine lv_iconst (v := 5) hx hb d_M_isShortPart_27 (by decide) ?_
        refine lv_isub hx hb d_M_isShortPart_28 ?_
        refine lv_iload_n hx hb d_M_isShortPart_29 rfl (lv_at hl 3 rfl) ?_
        refine lv_icmp_ne (tgt := 35) hx hb d_M_isShortPart_30 (by decide) (fun c_30 => ?_) (fun c_30 => ?_)
        · skip
          refine lv_iinc (v := (k_5 + 1)) (lv' := [(3, .int (k_5 + 1)), (0, .ref b_x), (1, .int x0), (2, .int x1)]) hx hb d_M_isShortPart_35 hl (k := 0) rfl rfl (by decide) rfl (fun ls hl => ?_)
          refine lv_goto (tgt := 5) hx hb d_M_isShortPart_38 (by decide) ?_
          exact ih_5 (k_5 + 1) ls (st_nn c_15 hq) (ms_step c_15 hm_5) (by rw [← hF_5, mF_StepMachineModel_isShortPart_L5, if_neg c_15, if_neg c_30]) (lv_sub hl [0, 1, 2, 3] rfl)
        · skip
          refine lv_iconst (v := 1) hx hb d_M_isShortPart_33 (by decide) ?_
          exact W.zret (v := 1) hx hb hr rfl (fun t ht hW => ⟨_, rfl, by rw [← hF_5, mF_StepMachineModel_isShortPart_L5, if_neg c_15, if_pos c_30], ht⟩) (fun q h => by cases h) d_M_isShortPart_34
  exact loop_5 ((((32 * x0) + (mF_StepMachineModel_bitsOf x0)).toInt - (32 * x0).toInt).toNat + 1) (32 * x0) ls (nn_32 hk) (Nat.lt_succ_self _) (by rw [mF_StepMachineModel_isShortPart]) (lv_sub hl [0, 1, 2, 3] rfl)
def mF_StepMachineModel_isRegister (x0 : Int32) (x1 : Int32) (x2 : Int32) : Int32 := (if (mF_StepMachineModel_isShortPart x0 x1) = 0 then (if x2 < 0 then 0 else (if x2 ≤ 31 then (if x0 < 48 then 1 else (if x0 = 74 then 1 else (if x2 = 0 then 0 else (if x0 = 56 then (if x2 = 2 then 0 else 1) else 1)))) else 0)) else (if x2 < 8 then 0 else (if 16 ≤ x2 then 0 else 1)))
set_option maxHeartbeats 4000000 in
set_option maxRecDepth 100000 in
theorem mc_StepMachineModel_isRegister (l : Launch) (D : va_G) (tc : Nat → ClassId) (tb : Nat → Nat) (z0 : Nat) (b_x b_row b_part b_mem b_mrk b_sf b_ss b_sr b_h b_r b_in b_out b_k : Nat) (m_on : Int32) (m_hc : Int32) (m_pc : Int32) (m_giv : Int32) (m_tak : Int32) (m_put : Int32) (m_st : Int32) (m_cu : Int32) (m_va : Int32) (m_sp : Int32) (m_un : Int32) (m_kc : Int32) (m_kn : Int32) (m_by : Int32) (m_kd : Int32) (m_tg : Int32) (m_ju : Int32) (x0 : Int32) (x1 : Int32) (x2 : Int32) (hk : 0 ≤ x0.toInt ∧ x0.toInt < 75) : Met l y_M_isRegister (wM y_M_isRegister b_M_isRegister 4 (some .boolean)) ({ frames := 2, cells := 0, slots := 0, locals := 43 }) (va_Pc [.ref b_x, .int x0, .int x1, .int x2] (Pr D tc tb z0 [(b_x, .inr (9, [.ref b_row, .ref b_part, .ref b_mem, .ref b_mrk, .ref b_sf, .ref b_ss, .ref b_sr, .int m_on, .ref b_h, .int m_hc, .ref b_r, .int m_pc, .ref b_in, .int m_giv, .int m_tak, .ref b_out, .int m_put, .int m_st, .int m_cu, .int m_va, .int m_sp, .int m_un, .ref b_k, .int m_kc, .int m_kn, .int m_by, .int m_kd, .int m_tg, .int m_ju])), (b_row, .inl (tc 0, 2400, .inl rowT))])) (vp_Si (fun r => r = (mF_StepMachineModel_isRegister x0 x1 x2))) 0 0 (fun _ => False) := by
  refine Met.ofW (cc := b_M_isRegister) (maxL := 4) (ret := (some .boolean)) (by decide) rfl ?_
  intro p e s m args below meth c s₁ B hml hv
  obtain ⟨rfl, hP, hK, hB⟩ := hv
  have hx := B.exec
  have hb := B.bytes
  have hr := B.returns
  have hts : ∀ w ∈ wALL, w.before _ s = true := fun w h => atoms_spec (ws := (wM y_M_isRegister b_M_isRegister 4 (some .boolean))) B.pre w (List.mem_cons_of_mem _ h)
  have hown : s.vm.findClass "StepMachineModel" = some m.cls := findClass_of_methodNamed B.named
  have hlocks := B.notSynchronized
  have hl := lv_entry ([.ref b_x, .int x0, .int x1, .int x2]) (n := 4) (Nat.le_of_ble_eq_true rfl)
  rw [lg_entry_eq]
  generalize (lg_sl ([.ref b_x, .int x0, .int x1, .int x2]) ++ List.replicate (4 - (lg_sl ([.ref b_x, .int x0, .int x1, .int x2])).length) Slot.unset).toArray = ls at hl ⊢
  have hl : lv_has ls 4 [(0, .ref b_x), (1, .int x0), (2, .int x1), (3, .int x2)] := hl
  refine lv_aload_n hx hb d_M_isRegister_0 rfl (lv_at hl 0 rfl) ?_
  refine lv_iload_n hx hb d_M_isRegister_1 rfl (lv_at hl 1 rfl) ?_
  refine lv_iload_n hx hb d_M_isRegister_2 rfl (lv_at hl 2 rfl) ?_
  refine roVi (As := [.int x0, .int x1]) (rest := []) ⟨hx, hb, hml, hown, hts⟩ (mc_StepMachineModel_isShortPart l D tc tb z0 b_x b_row b_part b_mem b_mrk b_sf b_ss b_sr b_h b_r b_in b_out b_k m_on m_hc m_pc m_giv m_tak m_put m_st m_cu m_va m_sp m_un m_kc m_kn m_by m_kd m_tg m_ju x0 x1 hk) (cwV 2 hts (goodV a_779 a_780 a_929 a_10 a_781) rfl rfl rfl hv_M_isShortPart ⟨Nat.le_of_ble_eq_true rfl, Nat.le_of_ble_eq_true rfl⟩) (hP.sub [0, 1] rfl) hK hB rfl rfl rfl hl.1 rfl (Nat.le_of_ble_eq_true rfl) d_M_isRegister_3 ⟨Nat.zero_le _, Nat.zero_le _⟩ ?_
  refine lv_if_eq (tgt := 27) hx hb d_M_isRegister_6 (by decide) (fun c_6 => ?_) (fun c_6 => ?_)
  · skip
    refine lv_iload_n hx hb d_M_isRegister_27 rfl (lv_at hl 3 rfl) ?_
    refine lv_if_lt (tgt := 37) hx hb d_M_isRegister_28 (by decide) (fun c_28 => ?_) (fun c_28 => ?_)
    · skip
      refine lv_iconst (v := 0) hx hb d_M_isRegister_37 (by decide) ?_
      exact W.zret (v := 0) hx hb hr rfl (fun t ht hW => ⟨_, rfl, by rw [mF_StepMachineModel_isRegister, if_pos c_6, if_pos c_28], ht⟩) (fun q h => by cases h) d_M_isRegister_38
    · skip
      refine lv_iload_n hx hb d_M_isRegister_31 rfl (lv_at hl 3 rfl) ?_
      refine lv_bipush (v := 31) hx hb d_M_isRegister_32 (by decide) ?_
      refine lv_icmp_le (tgt := 39) hx hb d_M_isRegister_34 (by decide) (fun c_34 => ?_) (fun c_34 => ?_)
      · skip
        refine lv_iload_n hx hb d_M_isRegister_39 rfl (lv_at hl 1 rfl) ?_
        refine lv_bipush (v := 48) hx hb d_M_isRegister_40 (by decide) ?_
        refine lv_icmp_lt (tgt := 51) hx hb d_M_isRegister_42 (by decide) (fun c_42 => ?_) (fun c_42 => ?_)
        · skip
          refine lv_iconst (v := 1) hx hb d_M_isRegister_51 (by decide) ?_
          exact W.zret (v := 1) hx hb hr rfl (fun t ht hW => ⟨_, rfl, by rw [mF_StepMachineModel_isRegister, if_pos c_6, if_neg c_28, if_pos c_34, if_pos c_42], ht⟩) (fun q h => by cases h) d_M_isRegister_52
        · skip
          refine lv_iload_n hx hb d_M_isRegister_45 rfl (lv_at hl 1 rfl) ?_
          refine lv_bipush (v := 74) hx hb d_M_isRegister_46 (by decide) ?_
          refine lv_icmp_ne (tgt := 53) hx hb d_M_isRegister_48 (by decide) (fun c_48 => ?_) (fun c_48 => ?_)
          · skip
            refine lv_iload_n hx hb d_M_isRegister_53 rfl (lv_at hl 3 rfl) ?_
            refine lv_if_eq (tgt := 72) hx hb d_M_isRegister_54 (by decide) (fun c_54 => ?_) (fun c_54 => ?_)
            · skip
              refine lv_iconst (v := 0) hx hb d_M_isRegister_72 (by decide) ?_
              exact W.zret (v := 0) hx hb hr rfl (fun t ht hW => ⟨_, rfl, by rw [mF_StepMachineModel_isRegister, if_pos c_6, if_neg c_28, if_pos c_34, if_neg c_42, if_neg c_48, if_pos c_54], ht⟩) (fun q h => by cases h) d_M_isRegister_73
            · skip
              refine lv_iload_n hx hb d_M_isRegister_57 rfl (lv_at hl 1 rfl) ?_
              refine lv_bipush (v := 56) hx hb d_M_isRegister_58 (by decide) ?_
              refine lv_icmp_ne (tgt := 68) hx hb d_M_isRegister_60 (by decide) (fun c_60 => ?_) (fun c_60 => ?_)
              · skip
                refine lv_iconst (v := 1) hx hb d_M_isRegister_68 (by decide) ?_
                refine lv_goto (tgt := 73) hx hb d_M_isRegister_69 (by decide) ?_
                exact W.zret (v := 1) hx hb hr rfl (fun t ht hW => ⟨_, rfl, by rw [mF_StepMachineModel_isRegister, if_pos c_6, if_neg c_28, if_pos c_34, if_neg c_42, if_neg c_48, if_neg c_54, if_neg c_60], ht⟩) (fun q h => by cases h) d_M_isRegister_73
              · skip
                refine lv_iload_n hx hb d_M_isRegister_63 rfl (lv_at hl 3 rfl) ?_
                refine lv_iconst (v := 2) hx hb d_M_isRegister_64 (by decide) ?_
                refine lv_icmp_eq (tgt := 72) hx hb d_M_isRegister_65 (by decide) (fun c_65 => ?_) (fun c_65 => ?_)
                · skip
                  refine lv_iconst (v := 0) hx hb d_M_isRegister_72 (by decide) ?_
                  exact W.zret (v := 0) hx hb hr rfl (fun t ht hW => ⟨_, rfl, by rw [mF_StepMachineModel_isRegister, if_pos c_6, if_neg c_28, if_pos c_34, if_neg c_42, if_neg c_48, if_neg c_54, if_pos c_60, if_pos c_65], ht⟩) (fun q h => by cases h) d_M_isRegister_73
                · skip
                  refine lv_iconst (v := 1) hx hb d_M_isRegister_68 (by decide) ?_
                  refine lv_goto (tgt := 73) hx hb d_M_isRegister_69 (by decide) ?_
                  exact W.zret (v := 1) hx hb hr rfl (fun t ht hW => ⟨_, rfl, by rw [mF_StepMachineModel_isRegister, if_pos c_6, if_neg c_28, if_pos c_34, if_neg c_42, if_neg c_48, if_neg c_54, if_pos c_60, if_neg c_65], ht⟩) (fun q h => by cases h) d_M_isRegister_73
          · skip
            refine lv_iconst (v := 1) hx hb d_M_isRegister_51 (by decide) ?_
            exact W.zret (v := 1) hx hb hr rfl (fun t ht hW => ⟨_, rfl, by rw [mF_StepMachineModel_isRegister, if_pos c_6, if_neg c_28, if_pos c_34, if_neg c_42, if_pos c_48], ht⟩) (fun q h => by cases h) d_M_isRegister_52
      · skip
        refine lv_iconst (v := 0) hx hb d_M_isRegister_37 (by decide) ?_
        exact W.zret (v := 0) hx hb hr rfl (fun t ht hW => ⟨_, rfl, by rw [mF_StepMachineModel_isRegister, if_pos c_6, if_neg c_28, if_neg c_34], ht⟩) (fun q h => by cases h) d_M_isRegister_38
  · skip
    refine lv_iload_n hx hb d_M_isRegister_9 rfl (lv_at hl 3 rfl) ?_
    refine lv_bipush (v := 8) hx hb d_M_isRegister_10 (by decide) ?_
    refine lv_icmp_lt (tgt := 25) hx hb d_M_isRegister_12 (by decide) (fun c_12 => ?_) (fun c_12 => ?_)
    · skip
      refine lv_iconst (v := 0) hx hb d_M_isRegister_25 (by decide) ?_
      exact W.zret (v := 0) hx hb hr rfl (fun t ht hW => ⟨_, rfl, by rw [mF_StepMachineModel_isRegister, if_neg c_6, if_pos c_12], ht⟩) (fun q h => by cases h) d_M_isRegister_26
    · skip
      refine lv_iload_n hx hb d_M_isRegister_15 rfl (lv_at hl 3 rfl) ?_
      refine lv_bipush (v := 16) hx hb d_M_isRegister_16 (by decide) ?_
      refine lv_icmp_ge (tgt := 25) hx hb d_M_isRegister_18 (by decide) (fun c_18 => ?_) (fun c_18 => ?_)
      · skip
        refine lv_iconst (v := 0) hx hb d_M_isRegister_25 (by decide) ?_
        exact W.zret (v := 0) hx hb hr rfl (fun t ht hW => ⟨_, rfl, by rw [mF_StepMachineModel_isRegister, if_neg c_6, if_neg c_12, if_pos c_18], ht⟩) (fun q h => by cases h) d_M_isRegister_26
      · skip
        refine lv_iconst (v := 1) hx hb d_M_isRegister_21 (by decide) ?_
        refine lv_goto (tgt := 26) hx hb d_M_isRegister_22 (by decide) ?_
        exact W.zret (v := 1) hx hb hr rfl (fun t ht hW => ⟨_, rfl, by rw [mF_StepMachineModel_isRegister, if_neg c_6, if_neg c_12, if_neg c_18], ht⟩) (fun q h => by cases h) d_M_isRegister_26
def mF_StepMachineModel_areGood_L2 (m_part : Nat → Int32) (x0 : Int32) : Nat → Int32 → Int32
  | 0, k_2 => 0
  | n_ + 1, k_2 => (if 3 ≤ k_2 then (if (mF_StepMachineModel_has x0 3) = 0 then 1 else (if (mF_StepMachineModel_isImmediate x0 ((m_part (3 : Int32).toNatClampNeg).toInt64)) = 0 then 0 else 1)) else (if (mF_StepMachineModel_has x0 k_2) = 0 then ((mF_StepMachineModel_areGood_L2 m_part x0 n_) (k_2 + 1)) else (if (mF_StepMachineModel_isRegister x0 k_2 (m_part k_2.toNatClampNeg)) = 0 then 0 else ((mF_StepMachineModel_areGood_L2 m_part x0 n_) (k_2 + 1)))))
def mF_StepMachineModel_areGood (m_part : Nat → Int32) (x0 : Int32) : Int32 := (mF_StepMachineModel_areGood_L2 m_part x0 (((3 : Int32).toInt - (0 : Int32).toInt).toNat + 1) (0 : Int32))
set_option maxHeartbeats 4000000 in
set_option maxRecDepth 100000 in
theorem mc_StepMachineModel_areGood (l : Launch) (D : va_G) (tc : Nat → ClassId) (tb : Nat → Nat) (z0 : Nat) (b_x b_row b_part b_mem b_mrk b_sf b_ss b_sr b_h b_r b_in b_out b_k : Nat) (m_on : Int32) (m_hc : Int32) (m_pc : Int32) (m_giv : Int32) (m_tak : Int32) (m_put : Int32) (m_st : Int32) (m_cu : Int32) (m_va : Int32) (m_sp : Int32) (m_un : Int32) (m_kc : Int32) (m_kn : Int32) (m_by : Int32) (m_kd : Int32) (m_tg : Int32) (m_ju : Int32) (m_part : Nat → Int32) (x0 : Int32) (hk : 0 ≤ x0.toInt ∧ x0.toInt < 75) : Met l y_M_areGood (wM y_M_areGood b_M_areGood 3 (some .boolean)) ({ frames := 3, cells := 0, slots := 0, locals := 66 }) (va_Pc [.ref b_x, .int x0] (Pr D tc tb z0 [(b_x, .inr (9, [.ref b_row, .ref b_part, .ref b_mem, .ref b_mrk, .ref b_sf, .ref b_ss, .ref b_sr, .int m_on, .ref b_h, .int m_hc, .ref b_r, .int m_pc, .ref b_in, .int m_giv, .int m_tak, .ref b_out, .int m_put, .int m_st, .int m_cu, .int m_va, .int m_sp, .int m_un, .ref b_k, .int m_kc, .int m_kn, .int m_by, .int m_kd, .int m_tg, .int m_ju])), (b_row, .inl (tc 0, 2400, .inl rowT)), (b_part, .inl (tc 0, 4, .inl m_part))])) (vp_Si (fun r => r = (mF_StepMachineModel_areGood m_part x0))) 0 0 (fun _ => False) := by
  refine Met.ofW (cc := b_M_areGood) (maxL := 3) (ret := (some .boolean)) (by decide) rfl ?_
  intro p e s m args below meth c s₁ B hml hv
  obtain ⟨rfl, hP, hK, hB⟩ := hv
  have hx := B.exec
  have hb := B.bytes
  have hr := B.returns
  have hts : ∀ w ∈ wALL, w.before _ s = true := fun w h => atoms_spec (ws := (wM y_M_areGood b_M_areGood 3 (some .boolean))) B.pre w (List.mem_cons_of_mem _ h)
  have hown : s.vm.findClass "StepMachineModel" = some m.cls := findClass_of_methodNamed B.named
  have hlocks := B.notSynchronized
  have hl := lv_entry ([.ref b_x, .int x0]) (n := 3) (Nat.le_of_ble_eq_true rfl)
  rw [lg_entry_eq]
  generalize (lg_sl ([.ref b_x, .int x0]) ++ List.replicate (3 - (lg_sl ([.ref b_x, .int x0])).length) Slot.unset).toArray = ls at hl ⊢
  have hl : lv_has ls 3 [(0, .ref b_x), (1, .int x0)] := hl
  refine lv_iconst (v := 0) hx hb d_M_areGood_0 (by decide) ?_
  refine lv_istore_n (lv' := [(2, .int 0), (0, .ref b_x), (1, .int x0)]) hx hb d_M_areGood_1 rfl hl (by decide) rfl (fun ls hl => ?_)
  have loop_2 : ∀ (n_2 : Nat) (k_2 : Int32) (ls : Array Slot), (0 ≤ k_2.toInt) → ((3 : Int32).toInt - k_2.toInt).toNat < n_2 → (mF_StepMachineModel_areGood_L2 m_part x0 n_2 k_2) = (mF_StepMachineModel_areGood m_part x0) → lv_has ls 3 [(2, .int k_2), (0, .ref b_x), (1, .int x0)] → W p l e (headSpec (wM y_M_areGood b_M_areGood 3 (some .boolean)) ({ frames := 3, cells := 0, slots := 0, locals := 66 })).room s m ([.ref b_x, .int x0]).toArray below meth c s.heap [] 0 0 (MQ below (vp_Si (fun r => r = (mF_StepMachineModel_areGood m_part x0))) ([.ref b_x, .int x0]).toArray s 0 0 (fun _ => False)) (F0 m 2 ls []) := by
    intro n_2
    induction n_2 with
    | zero =>
      intro k_2 ls hq hm
      exact absurd hm (Nat.not_lt_zero _)
    | succ n_2 ih_2 =>
      intro k_2 ls hq hm_2 hF_2 hl
      refine lv_iload_n hx hb d_M_areGood_2 rfl (lv_at hl 0 rfl) ?_
      refine lv_iconst (v := 3) hx hb d_M_areGood_3 (by decide) ?_
      refine lv_icmp_ge (tgt := 39) hx hb d_M_areGood_4 (by decide) (fun c_4 => ?_) (fun c_4 => ?_)
      · skip
        refine lv_aload_n hx hb d_M_areGood_39 rfl (lv_at hl 1 rfl) ?_
        refine lv_iload_n hx hb d_M_areGood_40 rfl (lv_at hl 2 rfl) ?_
        refine lv_iconst (v := 3) hx hb d_M_areGood_41 (by decide) ?_
        refine roVi (As := [.int x0, .int 3]) (rest := []) ⟨hx, hb, hml, hown, hts⟩ (mc_StepMachineModel_has l D tc tb z0 b_x b_row b_part b_mem b_mrk b_sf b_ss b_sr b_h b_r b_in b_out b_k m_on m_hc m_pc m_giv m_tak m_put m_st m_cu m_va m_sp m_un m_kc m_kn m_by m_kd m_tg m_ju x0 3 hk) (cwV 2 hts (goodV a_792 a_793 a_931 a_10 a_794) rfl rfl rfl hv_M_has ⟨Nat.le_of_ble_eq_true rfl, Nat.le_of_ble_eq_true rfl⟩) (hP.sub [0, 1] rfl) hK hB rfl rfl rfl hl.1 rfl (Nat.le_of_ble_eq_true rfl) d_M_areGood_42 ⟨Nat.zero_le _, Nat.zero_le _⟩ ?_
        refine lv_if_eq (tgt := 62) hx hb d_M_areGood_45 (by decide) (fun c_45 => ?_) (fun c_45 => ?_)
        · skip
          refine lv_iconst (v := 1) hx hb d_M_areGood_62 (by decide) ?_
          refine lv_goto (tgt := 67) hx hb d_M_areGood_63 (by decide) ?_
          exact W.zret (v := 1) hx hb hr rfl (fun t ht hW => ⟨_, rfl, by rw [← hF_2, mF_StepMachineModel_areGood_L2, if_pos c_4, if_pos c_45], ht⟩) (fun q h => by cases h) d_M_areGood_67
        · skip
          refine lv_iload_n hx hb d_M_areGood_48 rfl (lv_at hl 2 rfl) ?_
          refine lv_aload_n hx hb d_M_areGood_49 rfl (lv_at hl 1 rfl) ?_
          refine va_get (D := D) (ci := 9) (v := .ref b_part) (C := "StepMachineModel") (T := TX9) (N := 29) hx hb hts inU_9 hown hK hP 0 rfl rfl 1 (by decide) (hts _ a_634) (fun _ h9 => h9) rfl d_M_areGood_50 ?_
          refine lv_iconst (v := 3) hx hb d_M_areGood_53 (by decide) ?_
          refine va_iald hx hb hK hP 2 0 rfl rfl (vp_in_nI (n := 3) (N := 4) (by decide) (by decide)) d_M_areGood_54 ?_
          refine lv_i2l (v := (m_part (3 : Int32).toNatClampNeg).toInt64) hx hb d_M_areGood_55 rfl ?_
          refine roSi (As := [.int x0, .long ((m_part (3 : Int32).toNatClampNeg).toInt64)]) (rest := []) ⟨hx, hb, hml, hown, hts⟩ (mc_StepMachineModel_isImmediate l D tc tb z0 x0 ((m_part (3 : Int32).toNatClampNeg).toInt64)) (va_cwS 2 hts (goodS a_798 a_799 a_10 a_800) rfl rfl rfl hs_M_isImmediate ⟨Nat.le_of_ble_eq_true rfl, Nat.le_of_ble_eq_true rfl⟩) (hP.sub [] rfl) hK hB rfl hl.1 rfl (Nat.le_of_ble_eq_true rfl) d_M_areGood_56 ⟨Nat.zero_le _, Nat.zero_le _⟩ ?_
          refine lv_if_eq (tgt := 66) hx hb d_M_areGood_59 (by decide) (fun c_59 => ?_) (fun c_59 => ?_)
          · skip
            refine lv_iconst (v := 0) hx hb d_M_areGood_66 (by decide) ?_
            exact W.zret (v := 0) hx hb hr rfl (fun t ht hW => ⟨_, rfl, by rw [← hF_2, mF_StepMachineModel_areGood_L2, if_pos c_4, if_neg c_45, if_pos c_59], ht⟩) (fun q h => by cases h) d_M_areGood_67
          · skip
            refine lv_iconst (v := 1) hx hb d_M_areGood_62 (by decide) ?_
            refine lv_goto (tgt := 67) hx hb d_M_areGood_63 (by decide) ?_
            exact W.zret (v := 1) hx hb hr rfl (fun t ht hW => ⟨_, rfl, by rw [← hF_2, mF_StepMachineModel_areGood_L2, if_pos c_4, if_neg c_45, if_neg c_59], ht⟩) (fun q h => by cases h) d_M_areGood_67
      · skip
        refine lv_aload_n hx hb d_M_areGood_7 rfl (lv_at hl 1 rfl) ?_
        refine lv_iload_n hx hb d_M_areGood_8 rfl (lv_at hl 2 rfl) ?_
        refine lv_iload_n hx hb d_M_areGood_9 rfl (lv_at hl 0 rfl) ?_
        refine roVi (As := [.int x0, .int k_2]) (rest := []) ⟨hx, hb, hml, hown, hts⟩ (mc_StepMachineModel_has l D tc tb z0 b_x b_row b_part b_mem b_mrk b_sf b_ss b_sr b_h b_r b_in b_out b_k m_on m_hc m_pc m_giv m_tak m_put m_st m_cu m_va m_sp m_un m_kc m_kn m_by m_kd m_tg m_ju x0 k_2 hk) (cwV 2 hts (goodV a_792 a_793 a_931 a_10 a_794) rfl rfl rfl hv_M_has ⟨Nat.le_of_ble_eq_true rfl, Nat.le_of_ble_eq_true rfl⟩) (hP.sub [0, 1] rfl) hK hB rfl rfl rfl hl.1 rfl (Nat.le_of_ble_eq_true rfl) d_M_areGood_10 ⟨Nat.zero_le _, Nat.zero_le _⟩ ?_
        refine lv_if_eq (tgt := 33) hx hb d_M_areGood_13 (by decide) (fun c_13 => ?_) (fun c_13 => ?_)
        · skip
          refine lv_iinc (v := (k_2 + 1)) (lv' := [(2, .int (k_2 + 1)), (0, .ref b_x), (1, .int x0)]) hx hb d_M_areGood_33 hl (k := 0) rfl rfl (by decide) rfl (fun ls hl => ?_)
          refine lv_goto (tgt := 2) hx hb d_M_areGood_36 (by decide) ?_
          exact ih_2 (k_2 + 1) ls (st_nn c_4 hq) (ms_step c_4 hm_2) (by rw [← hF_2, mF_StepMachineModel_areGood_L2, if_neg c_4, if_pos c_13]) (lv_sub hl [0, 1, 2] rfl)
        · skip
          refine lv_aload_n hx hb d_M_areGood_16 rfl (lv_at hl 1 rfl) ?_
          refine lv_iload_n hx hb d_M_areGood_17 rfl (lv_at hl 2 rfl) ?_
          refine lv_iload_n hx hb d_M_areGood_18 rfl (lv_at hl 0 rfl) ?_
          refine lv_aload_n hx hb d_M_areGood_19 rfl (lv_at hl 1 rfl) ?_
          refine va_get (D := D) (ci := 9) (v := .ref b_part) (C := "StepMachineModel") (T := TX9) (N := 29) hx hb hts inU_9 hown hK hP 0 rfl rfl 1 (by decide) (hts _ a_634) (fun _ h9 => h9) rfl d_M_areGood_20 ?_
          refine lv_iload_n hx hb d_M_areGood_23 rfl (lv_at hl 0 rfl) ?_
          refine va_iald hx hb hK hP 2 0 rfl rfl (in_k hq c_4 (by decide)) d_M_areGood_24 ?_
          refine roVi (As := [.int x0, .int k_2, .int (m_part k_2.toNatClampNeg)]) (rest := []) ⟨hx, hb, hml, hown, hts⟩ (mc_StepMachineModel_isRegister l D tc tb z0 b_x b_row b_part b_mem b_mrk b_sf b_ss b_sr b_h b_r b_in b_out b_k m_on m_hc m_pc m_giv m_tak m_put m_st m_cu m_va m_sp m_un m_kc m_kn m_by m_kd m_tg m_ju x0 k_2 (m_part k_2.toNatClampNeg) hk) (cwV 3 hts (goodV a_795 a_796 a_932 a_10 a_797) rfl rfl rfl hv_M_isRegister ⟨Nat.le_of_ble_eq_true rfl, Nat.le_of_ble_eq_true rfl⟩) (hP.sub [0, 1] rfl) hK hB rfl rfl rfl hl.1 rfl (Nat.le_of_ble_eq_true rfl) d_M_areGood_25 ⟨Nat.zero_le _, Nat.zero_le _⟩ ?_
          refine lv_if_ne (tgt := 33) hx hb d_M_areGood_28 (by decide) (fun c_28 => ?_) (fun c_28 => ?_)
          · skip
            refine lv_iinc (v := (k_2 + 1)) (lv' := [(2, .int (k_2 + 1)), (0, .ref b_x), (1, .int x0)]) hx hb d_M_areGood_33 hl (k := 0) rfl rfl (by decide) rfl (fun ls hl => ?_)
            refine lv_goto (tgt := 2) hx hb d_M_areGood_36 (by decide) ?_
            exact ih_2 (k_2 + 1) ls (st_nn c_4 hq) (ms_step c_4 hm_2) (by rw [← hF_2, mF_StepMachineModel_areGood_L2, if_neg c_4, if_neg c_13, if_neg c_28]) (lv_sub hl [0, 1, 2] rfl)
          · skip
            refine lv_iconst (v := 0) hx hb d_M_areGood_31 (by decide) ?_
            exact W.zret (v := 0) hx hb hr rfl (fun t ht hW => ⟨_, rfl, by rw [← hF_2, mF_StepMachineModel_areGood_L2, if_neg c_4, if_neg c_13, if_pos c_28], ht⟩) (fun q h => by cases h) d_M_areGood_32
  exact loop_2 (((3 : Int32).toInt - (0 : Int32).toInt).toNat + 1) (0 : Int32) ls (by decide) (Nat.lt_succ_self _) (by rw [mF_StepMachineModel_areGood]) (lv_sub hl [0, 1, 2] rfl)
theorem bo_mF_StepMachineModel_areGood_L2 (p : Nat → Int32) (x : Int32) : ∀ (n : Nat) (k : Int32), mF_StepMachineModel_areGood_L2 p x n k = 0 ∨ mF_StepMachineModel_areGood_L2 p x n k = 1 := by
  intro n
  induction n with
  | zero => intro k; exact Or.inl rfl
  | succ n ih =>
    intro k
    rw [mF_StepMachineModel_areGood_L2]
    repeat' split
    all_goals first | exact Or.inl rfl | exact Or.inr rfl | exact ih _
theorem bo_mF_StepMachineModel_areGood (p : Nat → Int32) (x : Int32) : mF_StepMachineModel_areGood p x = 0 ∨ mF_StepMachineModel_areGood p x = 1 := bo_mF_StepMachineModel_areGood_L2 p x _ _
def mF_StepMachineModel_put_L4 (m_part : Nat → Int32) (x0 : Int32) : Nat → Int32 → Int32 → Int32 × Int32
  | 0, k_4, y_v => (k_4, y_v)
  | n_ + 1, k_4, y_v => (if (mF_StepMachineModel_bitsOf x0) ≤ k_4 then (k_4, y_v) else (if 2 ≤ (rowT ((32 * x0) + k_4).toNatClampNeg) then (if 500 ≤ (rowT ((32 * x0) + k_4).toNatClampNeg) then ((mF_StepMachineModel_put_L4 m_part x0 n_) (k_4 + 1) (y_v ||| (((((m_part (((rowT ((32 * x0) + k_4).toNatClampNeg) / 100) - 5).toNatClampNeg) - 8) >>> (((rowT ((32 * x0) + k_4).toNatClampNeg) - (rowT ((32 * x0) + k_4).toNatClampNeg) / 100 * 100) &&& 31)) &&& 1) <<< (k_4 &&& 31)))) else ((mF_StepMachineModel_put_L4 m_part x0 n_) (k_4 + 1) (y_v ||| ((((m_part (((rowT ((32 * x0) + k_4).toNatClampNeg) / 100) - 1).toNatClampNeg) >>> (((rowT ((32 * x0) + k_4).toNatClampNeg) - (rowT ((32 * x0) + k_4).toNatClampNeg) / 100 * 100) &&& 31)) &&& 1) <<< (k_4 &&& 31))))) else ((mF_StepMachineModel_put_L4 m_part x0 n_) (k_4 + 1) (y_v ||| ((rowT ((32 * x0) + k_4).toNatClampNeg) <<< (k_4 &&& 31))))))
def mF_StepMachineModel_put_1  (q_4 : Int32 × Int32) : Int32 := q_4.2
def mF_StepMachineModel_put (m_part : Nat → Int32) (x0 : Int32) : Int32 := (mF_StepMachineModel_put_1 (mF_StepMachineModel_put_L4 m_part x0 (((mF_StepMachineModel_bitsOf x0).toInt - (0 : Int32).toInt).toNat + 1) (0 : Int32) 0))
set_option maxHeartbeats 4000000 in
set_option maxRecDepth 100000 in
theorem mc_StepMachineModel_put (l : Launch) (D : va_G) (tc : Nat → ClassId) (tb : Nat → Nat) (z0 : Nat) (b_x b_row b_part b_mem b_mrk b_sf b_ss b_sr b_h b_r b_in b_out b_k : Nat) (m_on : Int32) (m_hc : Int32) (m_pc : Int32) (m_giv : Int32) (m_tak : Int32) (m_put : Int32) (m_st : Int32) (m_cu : Int32) (m_va : Int32) (m_sp : Int32) (m_un : Int32) (m_kc : Int32) (m_kn : Int32) (m_by : Int32) (m_kd : Int32) (m_tg : Int32) (m_ju : Int32) (m_part : Nat → Int32) (x0 : Int32) (hk : 0 ≤ x0.toInt ∧ x0.toInt < 75) : Met l y_M_put (wM y_M_put b_M_put 6 (some .int)) ({ frames := 1, cells := 0, slots := 0, locals := 20 }) (va_Pc [.ref b_x, .int x0] (Pr D tc tb z0 [(b_x, .inr (9, [.ref b_row, .ref b_part, .ref b_mem, .ref b_mrk, .ref b_sf, .ref b_ss, .ref b_sr, .int m_on, .ref b_h, .int m_hc, .ref b_r, .int m_pc, .ref b_in, .int m_giv, .int m_tak, .ref b_out, .int m_put, .int m_st, .int m_cu, .int m_va, .int m_sp, .int m_un, .ref b_k, .int m_kc, .int m_kn, .int m_by, .int m_kd, .int m_tg, .int m_ju])), (b_row, .inl (tc 0, 2400, .inl rowT)), (b_part, .inl (tc 0, 4, .inl m_part))])) (vp_Si (fun r => r = (mF_StepMachineModel_put m_part x0))) 0 0 (fun _ => False) := by
  refine Met.ofW (cc := b_M_put) (maxL := 6) (ret := (some .int)) (by decide) rfl ?_
  intro p e s m args below meth c s₁ B hml hv
  obtain ⟨rfl, hP, hK, hB⟩ := hv
  have hx := B.exec
  have hb := B.bytes
  have hr := B.returns
  have hts : ∀ w ∈ wALL, w.before _ s = true := fun w h => atoms_spec (ws := (wM y_M_put b_M_put 6 (some .int))) B.pre w (List.mem_cons_of_mem _ h)
  have hown : s.vm.findClass "StepMachineModel" = some m.cls := findClass_of_methodNamed B.named
  have hlocks := B.notSynchronized
  have hl := lv_entry ([.ref b_x, .int x0]) (n := 6) (Nat.le_of_ble_eq_true rfl)
  rw [lg_entry_eq]
  generalize (lg_sl ([.ref b_x, .int x0]) ++ List.replicate (6 - (lg_sl ([.ref b_x, .int x0])).length) Slot.unset).toArray = ls at hl ⊢
  have hl : lv_has ls 6 [(0, .ref b_x), (1, .int x0)] := hl
  refine lv_iconst (v := 0) hx hb d_M_put_0 (by decide) ?_
  refine lv_istore_n (lv' := [(2, .int 0), (0, .ref b_x), (1, .int x0)]) hx hb d_M_put_1 rfl hl (by decide) rfl (fun ls hl => ?_)
  refine lv_iconst (v := 0) hx hb d_M_put_2 (by decide) ?_
  refine lv_istore_n (lv' := [(3, .int 0), (2, .int 0), (0, .ref b_x), (1, .int x0)]) hx hb d_M_put_3 rfl hl (by decide) rfl (fun ls hl => ?_)
  have loop_4 : ∀ (n_4 : Nat) (k_4 : Int32) (y_v : Int32) (ls : Array Slot), (0 ≤ k_4.toInt) → ((mF_StepMachineModel_bitsOf x0).toInt - k_4.toInt).toNat < n_4 → (∀ (ls : Array Slot), (0 ≤ (mF_StepMachineModel_put_L4 m_part x0 n_4 k_4 y_v).1.toInt) → lv_has ls 6 [(3, .int ((mF_StepMachineModel_put_L4 m_part x0 n_4 k_4 y_v).1)), (2, .int ((mF_StepMachineModel_put_L4 m_part x0 n_4 k_4 y_v).2)), (0, .ref b_x), (1, .int x0)] → W p l e (headSpec (wM y_M_put b_M_put 6 (some .int)) ({ frames := 1, cells := 0, slots := 0, locals := 20 })).room s m ([.ref b_x, .int x0]).toArray below meth c s.heap [] 0 0 (MQ below (vp_Si (fun r => r = (mF_StepMachineModel_put m_part x0))) ([.ref b_x, .int x0]).toArray s 0 0 (fun _ => False)) (F0 m 105 ls [])) → lv_has ls 6 [(3, .int k_4), (2, .int y_v), (0, .ref b_x), (1, .int x0)] → W p l e (headSpec (wM y_M_put b_M_put 6 (some .int)) ({ frames := 1, cells := 0, slots := 0, locals := 20 })).room s m ([.ref b_x, .int x0]).toArray below meth c s.heap [] 0 0 (MQ below (vp_Si (fun r => r = (mF_StepMachineModel_put m_part x0))) ([.ref b_x, .int x0]).toArray s 0 0 (fun _ => False)) (F0 m 4 ls []) := by
    intro n_4
    induction n_4 with
    | zero =>
      intro k_4 y_v ls hq hm
      exact absurd hm (Nat.not_lt_zero _)
    | succ n_4 ih_4 =>
      intro k_4 y_v ls hq hm_4 hX_4 hl
      refine lv_iload_n hx hb d_M_put_4 rfl (lv_at hl 0 rfl) ?_
      refine lv_iload_n hx hb d_M_put_5 rfl (lv_at hl 3 rfl) ?_
      refine roSi (As := [.int x0]) (rest := [.int k_4]) ⟨hx, hb, hml, hown, hts⟩ (mc_StepMachineModel_bitsOf l D tc tb z0 x0) (va_cwS 1 hts (goodS a_782 a_783 a_10 a_784) rfl rfl rfl hs_M_bitsOf ⟨Nat.le_of_ble_eq_true rfl, Nat.le_of_ble_eq_true rfl⟩) (hP.sub [] rfl) hK hB rfl hl.1 rfl (Nat.le_of_ble_eq_true rfl) d_M_put_6 ⟨Nat.zero_le _, Nat.zero_le _⟩ ?_
      refine lv_icmp_ge (tgt := 105) hx hb d_M_put_9 (by decide) (fun c_9 => ?_) (fun c_9 => ?_)
      · skip
        rw [mF_StepMachineModel_put_L4, if_pos c_9] at hX_4
        exact hX_4 ls hq (lv_sub hl [0, 1, 2, 3] rfl)
      · skip
        refine lv_aload_n hx hb d_M_put_12 rfl (lv_at hl 2 rfl) ?_
        refine va_get (D := D) (ci := 9) (v := .ref b_row) (C := "StepMachineModel") (T := TX9) (N := 29) hx hb hts inU_9 hown hK hP 0 rfl rfl 0 (by decide) (hts _ a_633) (fun _ h9 => h9) rfl d_M_put_13 ?_
        refine lv_bipush (v := 32) hx hb d_M_put_16 (by decide) ?_
        refine lv_iload_n hx hb d_M_put_18 rfl (lv_at hl 3 rfl) ?_
        refine lv_imul hx hb d_M_put_19 ?_
        refine lv_iload_n hx hb d_M_put_20 rfl (lv_at hl 0 rfl) ?_
        refine lv_iadd hx hb d_M_put_21 ?_
        refine va_iald hx hb hK hP 1 0 rfl rfl (ob_row2 hk c_9 hq) d_M_put_22 ?_
        refine lv_istore (lv' := [(4, .int (rowT ((32 * x0) + k_4).toNatClampNeg)), (3, .int k_4), (2, .int y_v), (0, .ref b_x), (1, .int x0)]) hx hb d_M_put_23 hl (by decide) rfl (fun ls hl => ?_)
        refine lv_iload hx hb d_M_put_25 (lv_at hl 0 rfl) ?_
        refine lv_iconst (v := 2) hx hb d_M_put_27 (by decide) ?_
        refine lv_icmp_ge (tgt := 36) hx hb d_M_put_28 (by decide) (fun c_28 => ?_) (fun c_28 => ?_)
        · skip
          refine lv_iload hx hb d_M_put_36 (lv_at hl 0 rfl) ?_
          refine lv_sipush (v := 500) hx hb d_M_put_38 (by decide) ?_
          refine lv_icmp_ge (tgt := 67) hx hb d_M_put_41 (by decide) (fun c_41 => ?_) (fun c_41 => ?_)
          · skip
            refine lv_aload_n hx hb d_M_put_67 rfl (lv_at hl 3 rfl) ?_
            refine va_get (D := D) (ci := 9) (v := .ref b_part) (C := "StepMachineModel") (T := TX9) (N := 29) hx hb hts inU_9 hown hK hP 0 rfl rfl 1 (by decide) (hts _ a_634) (fun _ h9 => h9) rfl d_M_put_68 ?_
            refine lv_iload hx hb d_M_put_71 (lv_at hl 0 rfl) ?_
            refine lv_bipush (v := 100) hx hb d_M_put_73 (by decide) ?_
            refine lv_idiv hx hb d_M_put_75 (by decide) ?_
            refine lv_iconst (v := 5) hx hb d_M_put_76 (by decide) ?_
            refine lv_isub hx hb d_M_put_77 ?_
            refine va_iald hx hb hK hP 2 0 rfl rfl (p5_put c_41) d_M_put_78 ?_
            refine lv_bipush (v := 8) hx hb d_M_put_79 (by decide) ?_
            refine lv_isub hx hb d_M_put_81 ?_
            refine lv_iload hx hb d_M_put_82 (lv_at hl 0 rfl) ?_
            refine lv_bipush (v := 100) hx hb d_M_put_84 (by decide) ?_
            refine lv_irem hx hb d_M_put_86 (by decide) ?_
            refine lv_ishr hx hb d_M_put_87 ?_
            refine lv_iconst (v := 1) hx hb d_M_put_88 (by decide) ?_
            refine lv_iand hx hb d_M_put_89 ?_
            refine lv_istore (lv' := [(5, .int ((((m_part (((rowT ((32 * x0) + k_4).toNatClampNeg) / 100) - 5).toNatClampNeg) - 8) >>> (((rowT ((32 * x0) + k_4).toNatClampNeg) - (rowT ((32 * x0) + k_4).toNatClampNeg) / 100 * 100) &&& 31)) &&& 1)), (4, .int (rowT ((32 * x0) + k_4).toNatClampNeg)), (3, .int k_4), (2, .int y_v), (0, .ref b_x), (1, .int x0)]) hx hb d_M_put_90 hl (by decide) rfl (fun ls hl => ?_)
            refine lv_iload_n hx hb d_M_put_92 rfl (lv_at hl 3 rfl) ?_
            refine lv_iload hx hb d_M_put_93 (lv_at hl 0 rfl) ?_
            refine lv_iload_n hx hb d_M_put_95 rfl (lv_at hl 2 rfl) ?_
            refine lv_ishl hx hb d_M_put_96 ?_
            refine lv_ior hx hb d_M_put_97 ?_
            refine lv_istore_n (lv' := [(2, .int (y_v ||| (((((m_part (((rowT ((32 * x0) + k_4).toNatClampNeg) / 100) - 5).toNatClampNeg) - 8) >>> (((rowT ((32 * x0) + k_4).toNatClampNeg) - (rowT ((32 * x0) + k_4).toNatClampNeg) / 100 * 100) &&& 31)) &&& 1) <<< (k_4 &&& 31)))), (5, .int ((((m_part (((rowT ((32 * x0) + k_4).toNatClampNeg) / 100) - 5).toNatClampNeg) - 8) >>> (((rowT ((32 * x0) + k_4).toNatClampNeg) - (rowT ((32 * x0) + k_4).toNatClampNeg) / 100 * 100) &&& 31)) &&& 1)), (4, .int (rowT ((32 * x0) + k_4).toNatClampNeg)), (3, .int k_4), (0, .ref b_x), (1, .int x0)]) hx hb d_M_put_98 rfl hl (by decide) rfl (fun ls hl => ?_)
            refine lv_iinc (v := (k_4 + 1)) (lv' := [(3, .int (k_4 + 1)), (2, .int (y_v ||| (((((m_part (((rowT ((32 * x0) + k_4).toNatClampNeg) / 100) - 5).toNatClampNeg) - 8) >>> (((rowT ((32 * x0) + k_4).toNatClampNeg) - (rowT ((32 * x0) + k_4).toNatClampNeg) / 100 * 100) &&& 31)) &&& 1) <<< (k_4 &&& 31)))), (5, .int ((((m_part (((rowT ((32 * x0) + k_4).toNatClampNeg) / 100) - 5).toNatClampNeg) - 8) >>> (((rowT ((32 * x0) + k_4).toNatClampNeg) - (rowT ((32 * x0) + k_4).toNatClampNeg) / 100 * 100) &&& 31)) &&& 1)), (4, .int (rowT ((32 * x0) + k_4).toNatClampNeg)), (0, .ref b_x), (1, .int x0)]) hx hb d_M_put_99 hl (k := 3) rfl rfl (by decide) rfl (fun ls hl => ?_)
            refine lv_goto (tgt := 4) hx hb d_M_put_102 (by decide) ?_
            exact ih_4 (k_4 + 1) (y_v ||| (((((m_part (((rowT ((32 * x0) + k_4).toNatClampNeg) / 100) - 5).toNatClampNeg) - 8) >>> (((rowT ((32 * x0) + k_4).toNatClampNeg) - (rowT ((32 * x0) + k_4).toNatClampNeg) / 100 * 100) &&& 31)) &&& 1) <<< (k_4 &&& 31))) ls (st_nn c_9 hq) (ms_step c_9 hm_4) (by have h := hX_4; rw [mF_StepMachineModel_put_L4, if_neg c_9, if_pos c_28, if_pos c_41] at h; exact h) (lv_sub hl [0, 1, 4, 5] rfl)
          · skip
            refine lv_aload_n hx hb d_M_put_44 rfl (lv_at hl 3 rfl) ?_
            refine va_get (D := D) (ci := 9) (v := .ref b_part) (C := "StepMachineModel") (T := TX9) (N := 29) hx hb hts inU_9 hown hK hP 0 rfl rfl 1 (by decide) (hts _ a_634) (fun _ h9 => h9) rfl d_M_put_45 ?_
            refine lv_iload hx hb d_M_put_48 (lv_at hl 0 rfl) ?_
            refine lv_bipush (v := 100) hx hb d_M_put_50 (by decide) ?_
            refine lv_idiv hx hb d_M_put_52 (by decide) ?_
            refine lv_iconst (v := 1) hx hb d_M_put_53 (by decide) ?_
            refine lv_isub hx hb d_M_put_54 ?_
            refine va_iald hx hb hK hP 2 0 rfl rfl (p1_put c_28 c_41) d_M_put_55 ?_
            refine lv_iload hx hb d_M_put_56 (lv_at hl 0 rfl) ?_
            refine lv_bipush (v := 100) hx hb d_M_put_58 (by decide) ?_
            refine lv_irem hx hb d_M_put_60 (by decide) ?_
            refine lv_ishr hx hb d_M_put_61 ?_
            refine lv_iconst (v := 1) hx hb d_M_put_62 (by decide) ?_
            refine lv_iand hx hb d_M_put_63 ?_
            refine lv_goto (tgt := 90) hx hb d_M_put_64 (by decide) ?_
            refine lv_istore (lv' := [(5, .int (((m_part (((rowT ((32 * x0) + k_4).toNatClampNeg) / 100) - 1).toNatClampNeg) >>> (((rowT ((32 * x0) + k_4).toNatClampNeg) - (rowT ((32 * x0) + k_4).toNatClampNeg) / 100 * 100) &&& 31)) &&& 1)), (4, .int (rowT ((32 * x0) + k_4).toNatClampNeg)), (3, .int k_4), (2, .int y_v), (0, .ref b_x), (1, .int x0)]) hx hb d_M_put_90 hl (by decide) rfl (fun ls hl => ?_)
            refine lv_iload_n hx hb d_M_put_92 rfl (lv_at hl 3 rfl) ?_
            refine lv_iload hx hb d_M_put_93 (lv_at hl 0 rfl) ?_
            refine lv_iload_n hx hb d_M_put_95 rfl (lv_at hl 2 rfl) ?_
            refine lv_ishl hx hb d_M_put_96 ?_
            refine lv_ior hx hb d_M_put_97 ?_
            refine lv_istore_n (lv' := [(2, .int (y_v ||| ((((m_part (((rowT ((32 * x0) + k_4).toNatClampNeg) / 100) - 1).toNatClampNeg) >>> (((rowT ((32 * x0) + k_4).toNatClampNeg) - (rowT ((32 * x0) + k_4).toNatClampNeg) / 100 * 100) &&& 31)) &&& 1) <<< (k_4 &&& 31)))), (5, .int (((m_part (((rowT ((32 * x0) + k_4).toNatClampNeg) / 100) - 1).toNatClampNeg) >>> (((rowT ((32 * x0) + k_4).toNatClampNeg) - (rowT ((32 * x0) + k_4).toNatClampNeg) / 100 * 100) &&& 31)) &&& 1)), (4, .int (rowT ((32 * x0) + k_4).toNatClampNeg)), (3, .int k_4), (0, .ref b_x), (1, .int x0)]) hx hb d_M_put_98 rfl hl (by decide) rfl (fun ls hl => ?_)
            refine lv_iinc (v := (k_4 + 1)) (lv' := [(3, .int (k_4 + 1)), (2, .int (y_v ||| ((((m_part (((rowT ((32 * x0) + k_4).toNatClampNeg) / 100) - 1).toNatClampNeg) >>> (((rowT ((32 * x0) + k_4).toNatClampNeg) - (rowT ((32 * x0) + k_4).toNatClampNeg) / 100 * 100) &&& 31)) &&& 1) <<< (k_4 &&& 31)))), (5, .int (((m_part (((rowT ((32 * x0) + k_4).toNatClampNeg) / 100) - 1).toNatClampNeg) >>> (((rowT ((32 * x0) + k_4).toNatClampNeg) - (rowT ((32 * x0) + k_4).toNatClampNeg) / 100 * 100) &&& 31)) &&& 1)), (4, .int (rowT ((32 * x0) + k_4).toNatClampNeg)), (0, .ref b_x), (1, .int x0)]) hx hb d_M_put_99 hl (k := 3) rfl rfl (by decide) rfl (fun ls hl => ?_)
            refine lv_goto (tgt := 4) hx hb d_M_put_102 (by decide) ?_
            exact ih_4 (k_4 + 1) (y_v ||| ((((m_part (((rowT ((32 * x0) + k_4).toNatClampNeg) / 100) - 1).toNatClampNeg) >>> (((rowT ((32 * x0) + k_4).toNatClampNeg) - (rowT ((32 * x0) + k_4).toNatClampNeg) / 100 * 100) &&& 31)) &&& 1) <<< (k_4 &&& 31))) ls (st_nn c_9 hq) (ms_step c_9 hm_4) (by have h := hX_4; rw [mF_StepMachineModel_put_L4, if_neg c_9, if_pos c_28, if_neg c_41] at h; exact h) (lv_sub hl [0, 1, 4, 5] rfl)
        · skip
          refine lv_iload hx hb d_M_put_31 (lv_at hl 0 rfl) ?_
          refine lv_goto (tgt := 90) hx hb d_M_put_33 (by decide) ?_
          refine lv_istore (lv' := [(5, .int (rowT ((32 * x0) + k_4).toNatClampNeg)), (4, .int (rowT ((32 * x0) + k_4).toNatClampNeg)), (3, .int k_4), (2, .int y_v), (0, .ref b_x), (1, .int x0)]) hx hb d_M_put_90 hl (by decide) rfl (fun ls hl => ?_)
          refine lv_iload_n hx hb d_M_put_92 rfl (lv_at hl 3 rfl) ?_
          refine lv_iload hx hb d_M_put_93 (lv_at hl 0 rfl) ?_
          refine lv_iload_n hx hb d_M_put_95 rfl (lv_at hl 2 rfl) ?_
          refine lv_ishl hx hb d_M_put_96 ?_
          refine lv_ior hx hb d_M_put_97 ?_
          refine lv_istore_n (lv' := [(2, .int (y_v ||| ((rowT ((32 * x0) + k_4).toNatClampNeg) <<< (k_4 &&& 31)))), (5, .int (rowT ((32 * x0) + k_4).toNatClampNeg)), (4, .int (rowT ((32 * x0) + k_4).toNatClampNeg)), (3, .int k_4), (0, .ref b_x), (1, .int x0)]) hx hb d_M_put_98 rfl hl (by decide) rfl (fun ls hl => ?_)
          refine lv_iinc (v := (k_4 + 1)) (lv' := [(3, .int (k_4 + 1)), (2, .int (y_v ||| ((rowT ((32 * x0) + k_4).toNatClampNeg) <<< (k_4 &&& 31)))), (5, .int (rowT ((32 * x0) + k_4).toNatClampNeg)), (4, .int (rowT ((32 * x0) + k_4).toNatClampNeg)), (0, .ref b_x), (1, .int x0)]) hx hb d_M_put_99 hl (k := 3) rfl rfl (by decide) rfl (fun ls hl => ?_)
          refine lv_goto (tgt := 4) hx hb d_M_put_102 (by decide) ?_
          exact ih_4 (k_4 + 1) (y_v ||| ((rowT ((32 * x0) + k_4).toNatClampNeg) <<< (k_4 &&& 31))) ls (st_nn c_9 hq) (ms_step c_9 hm_4) (by have h := hX_4; rw [mF_StepMachineModel_put_L4, if_neg c_9, if_neg c_28] at h; exact h) (lv_sub hl [0, 1, 4, 5] rfl)
  obtain ⟨q_4, e_4⟩ : ∃ z, z = (mF_StepMachineModel_put_L4 m_part x0 (((mF_StepMachineModel_bitsOf x0).toInt - (0 : Int32).toInt).toNat + 1) (0 : Int32) 0) := ⟨_, rfl⟩
  refine loop_4 (((mF_StepMachineModel_bitsOf x0).toInt - (0 : Int32).toInt).toNat + 1) (0 : Int32) 0 ls (by decide) (Nat.lt_succ_self _) ?_ (lv_sub hl [0, 1, 2, 3] rfl)
  rw [← e_4]
  intro ls hq hl
  have hl : lv_has ls 6 [(3, .int q_4.1), (2, .int q_4.2), (0, .ref b_x), (1, .int x0)] := hl
  refine lv_iload_n hx hb d_M_put_105 rfl (lv_at hl 1 rfl) ?_
  exact W.iret (v := q_4.2) hx hb hr (fun t ht hW => ⟨_, rfl, by rw [mF_StepMachineModel_put, ← e_4, mF_StepMachineModel_put_1], ht⟩) (fun q h => by cases h) d_M_put_106
def mF_StepMachineModel_take_L2 (x0 : Int32) : Nat → Int32 → (Nat → Int32) → Int32 × (Nat → Int32)
  | 0, k_2, m_partL => (k_2, m_partL)
  | n_ + 1, k_2, m_partL => (if 4 ≤ k_2 then (k_2, m_partL) else (if 3 ≤ k_2 then ((mF_StepMachineModel_take_L2 x0 n_) (k_2 + 1) (upd m_partL k_2.toNatClampNeg 0)) else (if (mF_StepMachineModel_isShortPart x0 k_2) = 0 then ((mF_StepMachineModel_take_L2 x0 n_) (k_2 + 1) (upd m_partL k_2.toNatClampNeg 0)) else ((mF_StepMachineModel_take_L2 x0 n_) (k_2 + 1) (upd m_partL k_2.toNatClampNeg 8)))))
def mF_StepMachineModel_take_L41 (x0 : Int32) (x1 : Int32) : Nat → Int32 → (Nat → Int32) → Int32 × (Nat → Int32)
  | 0, k_41, m_partL => (0, m_partL)
  | n_ + 1, k_41, m_partL => (if (mF_StepMachineModel_bitsOf x0) ≤ k_41 then (if (mF_StepMachineModel_signOf x0) < 0 then (if x0 = 56 then ((mF_StepMachineModel_areGood (upd m_partL (3 : Int32).toNatClampNeg ((m_partL (3 : Int32).toNatClampNeg) &&& 1048575)) x0), (upd m_partL (3 : Int32).toNatClampNeg ((m_partL (3 : Int32).toNatClampNeg) &&& 1048575))) else ((mF_StepMachineModel_areGood m_partL x0), m_partL)) else (if x0 = 56 then ((mF_StepMachineModel_areGood (upd (upd m_partL (3 : Int32).toNatClampNeg (((m_partL (3 : Int32).toNatClampNeg) <<< ((31 - (mF_StepMachineModel_signOf x0)) &&& 31)) >>> ((31 - (mF_StepMachineModel_signOf x0)) &&& 31))) (3 : Int32).toNatClampNeg (((upd m_partL (3 : Int32).toNatClampNeg (((m_partL (3 : Int32).toNatClampNeg) <<< ((31 - (mF_StepMachineModel_signOf x0)) &&& 31)) >>> ((31 - (mF_StepMachineModel_signOf x0)) &&& 31))) (3 : Int32).toNatClampNeg) &&& 1048575)) x0), (upd (upd m_partL (3 : Int32).toNatClampNeg (((m_partL (3 : Int32).toNatClampNeg) <<< ((31 - (mF_StepMachineModel_signOf x0)) &&& 31)) >>> ((31 - (mF_StepMachineModel_signOf x0)) &&& 31))) (3 : Int32).toNatClampNeg (((upd m_partL (3 : Int32).toNatClampNeg (((m_partL (3 : Int32).toNatClampNeg) <<< ((31 - (mF_StepMachineModel_signOf x0)) &&& 31)) >>> ((31 - (mF_StepMachineModel_signOf x0)) &&& 31))) (3 : Int32).toNatClampNeg) &&& 1048575))) else ((mF_StepMachineModel_areGood (upd m_partL (3 : Int32).toNatClampNeg (((m_partL (3 : Int32).toNatClampNeg) <<< ((31 - (mF_StepMachineModel_signOf x0)) &&& 31)) >>> ((31 - (mF_StepMachineModel_signOf x0)) &&& 31))) x0), (upd m_partL (3 : Int32).toNatClampNeg (((m_partL (3 : Int32).toNatClampNeg) <<< ((31 - (mF_StepMachineModel_signOf x0)) &&& 31)) >>> ((31 - (mF_StepMachineModel_signOf x0)) &&& 31)))))) else (if 2 ≤ (rowT ((32 * x0) + k_41).toNatClampNeg) then (if (rowT ((32 * x0) + k_41).toNatClampNeg) ≤ 1 then (if (rowT ((32 * x0) + k_41).toNatClampNeg) < 500 then ((mF_StepMachineModel_take_L41 x0 x1 n_) (k_41 + 1) m_partL) else ((mF_StepMachineModel_take_L41 x0 x1 n_) (k_41 + 1) (upd m_partL (((rowT ((32 * x0) + k_41).toNatClampNeg) / 100) - 5).toNatClampNeg ((m_partL (((rowT ((32 * x0) + k_41).toNatClampNeg) / 100) - 5).toNatClampNeg) + (((x1 >>> (k_41 &&& 31)) &&& 1) <<< (((rowT ((32 * x0) + k_41).toNatClampNeg) - (rowT ((32 * x0) + k_41).toNatClampNeg) / 100 * 100) &&& 31)))))) else (if 500 ≤ (rowT ((32 * x0) + k_41).toNatClampNeg) then (if (rowT ((32 * x0) + k_41).toNatClampNeg) < 500 then ((mF_StepMachineModel_take_L41 x0 x1 n_) (k_41 + 1) m_partL) else ((mF_StepMachineModel_take_L41 x0 x1 n_) (k_41 + 1) (upd m_partL (((rowT ((32 * x0) + k_41).toNatClampNeg) / 100) - 5).toNatClampNeg ((m_partL (((rowT ((32 * x0) + k_41).toNatClampNeg) / 100) - 5).toNatClampNeg) + (((x1 >>> (k_41 &&& 31)) &&& 1) <<< (((rowT ((32 * x0) + k_41).toNatClampNeg) - (rowT ((32 * x0) + k_41).toNatClampNeg) / 100 * 100) &&& 31)))))) else (if (rowT ((32 * x0) + k_41).toNatClampNeg) < 500 then ((mF_StepMachineModel_take_L41 x0 x1 n_) (k_41 + 1) (upd m_partL (((rowT ((32 * x0) + k_41).toNatClampNeg) / 100) - 1).toNatClampNeg ((m_partL (((rowT ((32 * x0) + k_41).toNatClampNeg) / 100) - 1).toNatClampNeg) + (((x1 >>> (k_41 &&& 31)) &&& 1) <<< (((rowT ((32 * x0) + k_41).toNatClampNeg) - (rowT ((32 * x0) + k_41).toNatClampNeg) / 100 * 100) &&& 31))))) else ((mF_StepMachineModel_take_L41 x0 x1 n_) (k_41 + 1) (upd (upd m_partL (((rowT ((32 * x0) + k_41).toNatClampNeg) / 100) - 1).toNatClampNeg ((m_partL (((rowT ((32 * x0) + k_41).toNatClampNeg) / 100) - 1).toNatClampNeg) + (((x1 >>> (k_41 &&& 31)) &&& 1) <<< (((rowT ((32 * x0) + k_41).toNatClampNeg) - (rowT ((32 * x0) + k_41).toNatClampNeg) / 100 * 100) &&& 31)))) (((rowT ((32 * x0) + k_41).toNatClampNeg) / 100) - 5).toNatClampNeg (((upd m_partL (((rowT ((32 * x0) + k_41).toNatClampNeg) / 100) - 1).toNatClampNeg ((m_partL (((rowT ((32 * x0) + k_41).toNatClampNeg) / 100) - 1).toNatClampNeg) + (((x1 >>> (k_41 &&& 31)) &&& 1) <<< (((rowT ((32 * x0) + k_41).toNatClampNeg) - (rowT ((32 * x0) + k_41).toNatClampNeg) / 100 * 100) &&& 31)))) (((rowT ((32 * x0) + k_41).toNatClampNeg) / 100) - 5).toNatClampNeg) + (((x1 >>> (k_41 &&& 31)) &&& 1) <<< (((rowT ((32 * x0) + k_41).toNatClampNeg) - (rowT ((32 * x0) + k_41).toNatClampNeg) / 100 * 100) &&& 31)))))))) else (if (rowT ((32 * x0) + k_41).toNatClampNeg) = ((x1 >>> (k_41 &&& 31)) &&& 1) then (if (rowT ((32 * x0) + k_41).toNatClampNeg) ≤ 1 then (if (rowT ((32 * x0) + k_41).toNatClampNeg) < 500 then ((mF_StepMachineModel_take_L41 x0 x1 n_) (k_41 + 1) m_partL) else ((mF_StepMachineModel_take_L41 x0 x1 n_) (k_41 + 1) (upd m_partL (((rowT ((32 * x0) + k_41).toNatClampNeg) / 100) - 5).toNatClampNeg ((m_partL (((rowT ((32 * x0) + k_41).toNatClampNeg) / 100) - 5).toNatClampNeg) + (((x1 >>> (k_41 &&& 31)) &&& 1) <<< (((rowT ((32 * x0) + k_41).toNatClampNeg) - (rowT ((32 * x0) + k_41).toNatClampNeg) / 100 * 100) &&& 31)))))) else (if 500 ≤ (rowT ((32 * x0) + k_41).toNatClampNeg) then (if (rowT ((32 * x0) + k_41).toNatClampNeg) < 500 then ((mF_StepMachineModel_take_L41 x0 x1 n_) (k_41 + 1) m_partL) else ((mF_StepMachineModel_take_L41 x0 x1 n_) (k_41 + 1) (upd m_partL (((rowT ((32 * x0) + k_41).toNatClampNeg) / 100) - 5).toNatClampNeg ((m_partL (((rowT ((32 * x0) + k_41).toNatClampNeg) / 100) - 5).toNatClampNeg) + (((x1 >>> (k_41 &&& 31)) &&& 1) <<< (((rowT ((32 * x0) + k_41).toNatClampNeg) - (rowT ((32 * x0) + k_41).toNatClampNeg) / 100 * 100) &&& 31)))))) else (if (rowT ((32 * x0) + k_41).toNatClampNeg) < 500 then ((mF_StepMachineModel_take_L41 x0 x1 n_) (k_41 + 1) (upd m_partL (((rowT ((32 * x0) + k_41).toNatClampNeg) / 100) - 1).toNatClampNeg ((m_partL (((rowT ((32 * x0) + k_41).toNatClampNeg) / 100) - 1).toNatClampNeg) + (((x1 >>> (k_41 &&& 31)) &&& 1) <<< (((rowT ((32 * x0) + k_41).toNatClampNeg) - (rowT ((32 * x0) + k_41).toNatClampNeg) / 100 * 100) &&& 31))))) else ((mF_StepMachineModel_take_L41 x0 x1 n_) (k_41 + 1) (upd (upd m_partL (((rowT ((32 * x0) + k_41).toNatClampNeg) / 100) - 1).toNatClampNeg ((m_partL (((rowT ((32 * x0) + k_41).toNatClampNeg) / 100) - 1).toNatClampNeg) + (((x1 >>> (k_41 &&& 31)) &&& 1) <<< (((rowT ((32 * x0) + k_41).toNatClampNeg) - (rowT ((32 * x0) + k_41).toNatClampNeg) / 100 * 100) &&& 31)))) (((rowT ((32 * x0) + k_41).toNatClampNeg) / 100) - 5).toNatClampNeg (((upd m_partL (((rowT ((32 * x0) + k_41).toNatClampNeg) / 100) - 1).toNatClampNeg ((m_partL (((rowT ((32 * x0) + k_41).toNatClampNeg) / 100) - 1).toNatClampNeg) + (((x1 >>> (k_41 &&& 31)) &&& 1) <<< (((rowT ((32 * x0) + k_41).toNatClampNeg) - (rowT ((32 * x0) + k_41).toNatClampNeg) / 100 * 100) &&& 31)))) (((rowT ((32 * x0) + k_41).toNatClampNeg) / 100) - 5).toNatClampNeg) + (((x1 >>> (k_41 &&& 31)) &&& 1) <<< (((rowT ((32 * x0) + k_41).toNatClampNeg) - (rowT ((32 * x0) + k_41).toNatClampNeg) / 100 * 100) &&& 31)))))))) else (0, m_partL))))
def mF_StepMachineModel_take_1 (x0 : Int32) (x1 : Int32) (q_2 : Int32 × (Nat → Int32)) : Int32 × (Nat → Int32) := (mF_StepMachineModel_take_L41 x0 x1 (((mF_StepMachineModel_bitsOf x0).toInt - (0 : Int32).toInt).toNat + 1) (0 : Int32) q_2.2)
def mF_StepMachineModel_take (m_part : Nat → Int32) (x0 : Int32) (x1 : Int32) : Int32 × (Nat → Int32) := (mF_StepMachineModel_take_1 x0 x1 (mF_StepMachineModel_take_L2 x0 (((4 : Int32).toInt - (0 : Int32).toInt).toNat + 1) (0 : Int32) m_part))
set_option maxHeartbeats 4000000 in
set_option maxRecDepth 100000 in
theorem mc_StepMachineModel_take (l : Launch) (D : va_G) (tc : Nat → ClassId) (tb : Nat → Nat) (z0 : Nat) (sz : Nat) (b_x b_row b_part b_mem b_mrk b_sf b_ss b_sr b_h b_r b_in b_out b_k : Nat) (m_on : Int32) (m_hc : Int32) (m_pc : Int32) (m_giv : Int32) (m_tak : Int32) (m_put : Int32) (m_st : Int32) (m_cu : Int32) (m_va : Int32) (m_sp : Int32) (m_un : Int32) (m_kc : Int32) (m_kn : Int32) (m_by : Int32) (m_kd : Int32) (m_tg : Int32) (m_ju : Int32) (m_part : Nat → Int32) (x0 : Int32) (x1 : Int32) (hk : 0 ≤ x0.toInt ∧ x0.toInt < 75) : Met l y_M_take (wM y_M_take b_M_take 6 (some .boolean)) ({ frames := 4, cells := 0, slots := 0, locals := 88 }) (va_Pc [.ref b_x, .int x0, .int x1] (Pw D tc tb z0 [(b_x, .inr (9, [.ref b_row, .ref b_part, .ref b_mem, .ref b_mrk, .ref b_sf, .ref b_ss, .ref b_sr, .int m_on, .ref b_h, .int m_hc, .ref b_r, .int m_pc, .ref b_in, .int m_giv, .int m_tak, .ref b_out, .int m_put, .int m_st, .int m_cu, .int m_va, .int m_sp, .int m_un, .ref b_k, .int m_kc, .int m_kn, .int m_by, .int m_kd, .int m_tg, .int m_ju])), (b_row, .inl (tc 0, 2400, .inl rowT)), (b_part, .inl (tc 0, 4, .inl m_part))] sz)) (va_Qi (fun (r : Int32) (u : (Nat → Int32)) => (r, u) = (mF_StepMachineModel_take m_part x0 x1)) (Bw D tc (va_A [(b_x, .inr (9, [.ref b_row, .ref b_part, .ref b_mem, .ref b_mrk, .ref b_sf, .ref b_ss, .ref b_sr, .int m_on, .ref b_h, .int m_hc, .ref b_r, .int m_pc, .ref b_in, .int m_giv, .int m_tak, .ref b_out, .int m_put, .int m_st, .int m_cu, .int m_va, .int m_sp, .int m_un, .ref b_k, .int m_kc, .int m_kn, .int m_by, .int m_kd, .int m_tg, .int m_ju])), (b_row, .inl (tc 0, 2400, .inl rowT)), (b_part, .inl (tc 0, 4, .inl m_part))] sz) (fun u => [(b_x, .inr (9, [.ref b_row, .ref b_part, .ref b_mem, .ref b_mrk, .ref b_sf, .ref b_ss, .ref b_sr, .int m_on, .ref b_h, .int m_hc, .ref b_r, .int m_pc, .ref b_in, .int m_giv, .int m_tak, .ref b_out, .int m_put, .int m_st, .int m_cu, .int m_va, .int m_sp, .int m_un, .ref b_k, .int m_kc, .int m_kn, .int m_by, .int m_kd, .int m_tg, .int m_ju])), (b_row, .inl (tc 0, 2400, .inl rowT)), (b_part, .inl (tc 0, 4, .inl u))])) (va_A [(b_x, .inr (9, [.ref b_row, .ref b_part, .ref b_mem, .ref b_mrk, .ref b_sf, .ref b_ss, .ref b_sr, .int m_on, .ref b_h, .int m_hc, .ref b_r, .int m_pc, .ref b_in, .int m_giv, .int m_tak, .ref b_out, .int m_put, .int m_st, .int m_cu, .int m_va, .int m_sp, .int m_un, .ref b_k, .int m_kc, .int m_kn, .int m_by, .int m_kd, .int m_tg, .int m_ju])), (b_row, .inl (tc 0, 2400, .inl rowT)), (b_part, .inl (tc 0, 4, .inl m_part))] sz)) 0 0 (va_A [(b_x, .inr (9, [.ref b_row, .ref b_part, .ref b_mem, .ref b_mrk, .ref b_sf, .ref b_ss, .ref b_sr, .int m_on, .ref b_h, .int m_hc, .ref b_r, .int m_pc, .ref b_in, .int m_giv, .int m_tak, .ref b_out, .int m_put, .int m_st, .int m_cu, .int m_va, .int m_sp, .int m_un, .ref b_k, .int m_kc, .int m_kn, .int m_by, .int m_kd, .int m_tg, .int m_ju])), (b_row, .inl (tc 0, 2400, .inl rowT)), (b_part, .inl (tc 0, 4, .inl m_part))] sz) := by
  refine Met.ofW (cc := b_M_take) (maxL := 6) (ret := (some .boolean)) (by decide) rfl ?_
  intro p e s m args below meth c s₁ B hml hv
  obtain ⟨rfl, hsz, hP, hK, hB, hD0, hZ0⟩ := hv
  have hx := B.exec
  have hb := B.bytes
  have hr := B.returns
  have hts : ∀ w ∈ wALL, w.before _ s = true := fun w h => atoms_spec (ws := (wM y_M_take b_M_take 6 (some .boolean))) B.pre w (List.mem_cons_of_mem _ h)
  have hown : s.vm.findClass "StepMachineModel" = some m.cls := findClass_of_methodNamed B.named
  have hlocks := B.notSynchronized
  subst hsz
  have hD := hD0.self (sz := s.heap.size)
  generalize hAe : va_A [(b_x, .inr (9, [.ref b_row, .ref b_part, .ref b_mem, .ref b_mrk, .ref b_sf, .ref b_ss, .ref b_sr, .int m_on, .ref b_h, .int m_hc, .ref b_r, .int m_pc, .ref b_in, .int m_giv, .int m_tak, .ref b_out, .int m_put, .int m_st, .int m_cu, .int m_va, .int m_sp, .int m_un, .ref b_k, .int m_kc, .int m_kn, .int m_by, .int m_kd, .int m_tg, .int m_ju])), (b_row, .inl (tc 0, 2400, .inl rowT)), (b_part, .inl (tc 0, 4, .inl m_part))] s.heap.size = A at hD ⊢
  have hZ : ∀ q : Nat, A q → z0 ≤ q := by rw [← hAe]; exact hZ0
  have hA : ∀ q : Nat, s.heap.size ≤ q → A q := fun q h => by rw [← hAe]; exact Or.inr h
  have hS : va_S A s.heap s.heap [] := va_S.rf
  have hl := lv_entry ([.ref b_x, .int x0, .int x1]) (n := 6) (Nat.le_of_ble_eq_true rfl)
  rw [lg_entry_eq]
  generalize (lg_sl ([.ref b_x, .int x0, .int x1]) ++ List.replicate (6 - (lg_sl ([.ref b_x, .int x0, .int x1])).length) Slot.unset).toArray = ls at hl ⊢
  have hl : lv_has ls 6 [(0, .ref b_x), (1, .int x0), (2, .int x1)] := hl
  refine lv_iconst (v := 0) hx hb d_M_take_0 (by decide) ?_
  refine lv_istore_n (lv' := [(3, .int 0), (0, .ref b_x), (1, .int x0), (2, .int x1)]) hx hb d_M_take_1 rfl hl (by decide) rfl (fun ls hl => ?_)
  have loop_2 : ∀ (n_2 : Nat) (k_2 : Int32) (m_partL : Nat → Int32) (H : Heap) (locs : List Loc) (ls : Array Slot), (0 ≤ k_2.toInt) → ((4 : Int32).toInt - k_2.toInt).toNat < n_2 → (∀ (H : Heap) (locs : List Loc) (ls : Array Slot), (0 ≤ (mF_StepMachineModel_take_L2 x0 n_2 k_2 m_partL).1.toInt) → va_P D vwCl [(b_x, .inr (9, [.ref b_row, .ref b_part, .ref b_mem, .ref b_mrk, .ref b_sf, .ref b_ss, .ref b_sr, .int m_on, .ref b_h, .int m_hc, .ref b_r, .int m_pc, .ref b_in, .int m_giv, .int m_tak, .ref b_out, .int m_put, .int m_st, .int m_cu, .int m_va, .int m_sp, .int m_un, .ref b_k, .int m_kc, .int m_kn, .int m_by, .int m_kd, .int m_tg, .int m_ju])), (b_row, .inl (tc 0, 2400, .inl rowT)), (b_part, .inl (tc 0, 4, .inl ((mF_StepMachineModel_take_L2 x0 n_2 k_2 m_partL).2)))] H → va_D A [(b_x, .inr (9, [.ref b_row, .ref b_part, .ref b_mem, .ref b_mrk, .ref b_sf, .ref b_ss, .ref b_sr, .int m_on, .ref b_h, .int m_hc, .ref b_r, .int m_pc, .ref b_in, .int m_giv, .int m_tak, .ref b_out, .int m_put, .int m_st, .int m_cu, .int m_va, .int m_sp, .int m_un, .ref b_k, .int m_kc, .int m_kn, .int m_by, .int m_kd, .int m_tg, .int m_ju])), (b_row, .inl (tc 0, 2400, .inl rowT)), (b_part, .inl (tc 0, 4, .inl ((mF_StepMachineModel_take_L2 x0 n_2 k_2 m_partL).2)))] → va_S A s.heap H locs → lv_has ls 6 [(3, .int ((mF_StepMachineModel_take_L2 x0 n_2 k_2 m_partL).1)), (0, .ref b_x), (1, .int x0), (2, .int x1)] → W p l e (headSpec (wM y_M_take b_M_take 6 (some .boolean)) ({ frames := 4, cells := 0, slots := 0, locals := 88 })).room s m ([.ref b_x, .int x0, .int x1]).toArray below meth c H locs 0 0 (MQ below (va_Qi (fun (r : Int32) (u : (Nat → Int32)) => (r, u) = (mF_StepMachineModel_take m_part x0 x1)) (Bw D tc A (fun u => [(b_x, .inr (9, [.ref b_row, .ref b_part, .ref b_mem, .ref b_mrk, .ref b_sf, .ref b_ss, .ref b_sr, .int m_on, .ref b_h, .int m_hc, .ref b_r, .int m_pc, .ref b_in, .int m_giv, .int m_tak, .ref b_out, .int m_put, .int m_st, .int m_cu, .int m_va, .int m_sp, .int m_un, .ref b_k, .int m_kc, .int m_kn, .int m_by, .int m_kd, .int m_tg, .int m_ju])), (b_row, .inl (tc 0, 2400, .inl rowT)), (b_part, .inl (tc 0, 4, .inl u))])) A) ([.ref b_x, .int x0, .int x1]).toArray s 0 0 A) (F0 m 39 ls [])) → va_P D vwCl [(b_x, .inr (9, [.ref b_row, .ref b_part, .ref b_mem, .ref b_mrk, .ref b_sf, .ref b_ss, .ref b_sr, .int m_on, .ref b_h, .int m_hc, .ref b_r, .int m_pc, .ref b_in, .int m_giv, .int m_tak, .ref b_out, .int m_put, .int m_st, .int m_cu, .int m_va, .int m_sp, .int m_un, .ref b_k, .int m_kc, .int m_kn, .int m_by, .int m_kd, .int m_tg, .int m_ju])), (b_row, .inl (tc 0, 2400, .inl rowT)), (b_part, .inl (tc 0, 4, .inl m_partL))] H → va_D A [(b_x, .inr (9, [.ref b_row, .ref b_part, .ref b_mem, .ref b_mrk, .ref b_sf, .ref b_ss, .ref b_sr, .int m_on, .ref b_h, .int m_hc, .ref b_r, .int m_pc, .ref b_in, .int m_giv, .int m_tak, .ref b_out, .int m_put, .int m_st, .int m_cu, .int m_va, .int m_sp, .int m_un, .ref b_k, .int m_kc, .int m_kn, .int m_by, .int m_kd, .int m_tg, .int m_ju])), (b_row, .inl (tc 0, 2400, .inl rowT)), (b_part, .inl (tc 0, 4, .inl m_partL))] → va_S A s.heap H locs → lv_has ls 6 [(3, .int k_2), (0, .ref b_x), (1, .int x0), (2, .int x1)] → W p l e (headSpec (wM y_M_take b_M_take 6 (some .boolean)) ({ frames := 4, cells := 0, slots := 0, locals := 88 })).room s m ([.ref b_x, .int x0, .int x1]).toArray below meth c H locs 0 0 (MQ below (va_Qi (fun (r : Int32) (u : (Nat → Int32)) => (r, u) = (mF_StepMachineModel_take m_part x0 x1)) (Bw D tc A (fun u => [(b_x, .inr (9, [.ref b_row, .ref b_part, .ref b_mem, .ref b_mrk, .ref b_sf, .ref b_ss, .ref b_sr, .int m_on, .ref b_h, .int m_hc, .ref b_r, .int m_pc, .ref b_in, .int m_giv, .int m_tak, .ref b_out, .int m_put, .int m_st, .int m_cu, .int m_va, .int m_sp, .int m_un, .ref b_k, .int m_kc, .int m_kn, .int m_by, .int m_kd, .int m_tg, .int m_ju])), (b_row, .inl (tc 0, 2400, .inl rowT)), (b_part, .inl (tc 0, 4, .inl u))])) A) ([.ref b_x, .int x0, .int x1]).toArray s 0 0 A) (F0 m 2 ls []) := by
    intro n_2
    induction n_2 with
    | zero =>
      intro k_2 m_partL H locs ls hq hm
      exact absurd hm (Nat.not_lt_zero _)
    | succ n_2 ih_2 =>
      intro k_2 m_partL H locs ls hq hm_2 hX_2 hP hD hS hl
      refine lv_iload_n hx hb d_M_take_2 rfl (lv_at hl 0 rfl) ?_
      refine lv_iconst (v := 4) hx hb d_M_take_3 (by decide) ?_
      refine lv_icmp_ge (tgt := 39) hx hb d_M_take_4 (by decide) (fun c_4 => ?_) (fun c_4 => ?_)
      · skip
        rw [mF_StepMachineModel_take_L2, if_pos c_4] at hX_2
        exact hX_2 _ _ ls hq hP hD hS (lv_sub hl [0, 1, 2, 3] rfl)
      · skip
        refine lv_aload_n hx hb d_M_take_7 rfl (lv_at hl 1 rfl) ?_
        refine va_get (D := D) (ci := 9) (v := .ref b_part) (C := "StepMachineModel") (T := TX9) (N := 29) hx hb hts inU_9 hown hK hP 0 rfl rfl 1 (by decide) (hts _ a_634) (fun _ h9 => h9) rfl d_M_take_8 ?_
        refine lv_iload_n hx hb d_M_take_11 rfl (lv_at hl 0 rfl) ?_
        refine lv_iload_n hx hb d_M_take_12 rfl (lv_at hl 0 rfl) ?_
        refine lv_iconst (v := 3) hx hb d_M_take_13 (by decide) ?_
        refine lv_icmp_ge (tgt := 31) hx hb d_M_take_14 (by decide) (fun c_14 => ?_) (fun c_14 => ?_)
        · skip
          refine lv_iconst (v := 0) hx hb d_M_take_31 (by decide) ?_
          refine va_iast hx hb hK hP hD hS 2 0 rfl rfl (in_k hq c_4 (by decide)) d_M_take_32 (fun H locs hP hD hS => ?_)
          have hP : va_P D vwCl [(b_x, .inr (9, [.ref b_row, .ref b_part, .ref b_mem, .ref b_mrk, .ref b_sf, .ref b_ss, .ref b_sr, .int m_on, .ref b_h, .int m_hc, .ref b_r, .int m_pc, .ref b_in, .int m_giv, .int m_tak, .ref b_out, .int m_put, .int m_st, .int m_cu, .int m_va, .int m_sp, .int m_un, .ref b_k, .int m_kc, .int m_kn, .int m_by, .int m_kd, .int m_tg, .int m_ju])), (b_row, .inl (tc 0, 2400, .inl rowT)), (b_part, .inl (tc 0, 4, .inl (upd m_partL k_2.toNatClampNeg 0)))] H := hP
          have hD : va_D A [(b_x, .inr (9, [.ref b_row, .ref b_part, .ref b_mem, .ref b_mrk, .ref b_sf, .ref b_ss, .ref b_sr, .int m_on, .ref b_h, .int m_hc, .ref b_r, .int m_pc, .ref b_in, .int m_giv, .int m_tak, .ref b_out, .int m_put, .int m_st, .int m_cu, .int m_va, .int m_sp, .int m_un, .ref b_k, .int m_kc, .int m_kn, .int m_by, .int m_kd, .int m_tg, .int m_ju])), (b_row, .inl (tc 0, 2400, .inl rowT)), (b_part, .inl (tc 0, 4, .inl (upd m_partL k_2.toNatClampNeg 0)))] := hD
          refine lv_iinc (v := (k_2 + 1)) (lv' := [(3, .int (k_2 + 1)), (0, .ref b_x), (1, .int x0), (2, .int x1)]) hx hb d_M_take_33 hl (k := 0) rfl rfl (by decide) rfl (fun ls hl => ?_)
          refine lv_goto (tgt := 2) hx hb d_M_take_36 (by decide) ?_
          exact ih_2 (k_2 + 1) (upd m_partL k_2.toNatClampNeg 0) _ _ ls (st_nn c_4 hq) (ms_step c_4 hm_2) (by have h := hX_2; rw [mF_StepMachineModel_take_L2, if_neg c_4, if_pos c_14] at h; exact h) hP hD hS (lv_sub hl [0, 1, 2, 3] rfl)
        · skip
          refine lv_aload_n hx hb d_M_take_17 rfl (lv_at hl 1 rfl) ?_
          refine lv_iload_n hx hb d_M_take_18 rfl (lv_at hl 2 rfl) ?_
          refine lv_iload_n hx hb d_M_take_19 rfl (lv_at hl 0 rfl) ?_
          refine roVi (As := [.int x0, .int k_2]) (rest := [.int k_2, .ref b_part]) ⟨hx, hb, hml, hown, hts⟩ (mc_StepMachineModel_isShortPart l D tc tb z0 b_x b_row b_part b_mem b_mrk b_sf b_ss b_sr b_h b_r b_in b_out b_k m_on m_hc m_pc m_giv m_tak m_put m_st m_cu m_va m_sp m_un m_kc m_kn m_by m_kd m_tg m_ju x0 k_2 hk) (cwV 2 hts (goodV a_779 a_780 a_929 a_10 a_781) rfl rfl rfl hv_M_isShortPart ⟨Nat.le_of_ble_eq_true rfl, Nat.le_of_ble_eq_true rfl⟩) (hP.sub [0, 1] rfl) hK (hB.kept hS hZ) rfl rfl rfl hl.1 rfl (Nat.le_of_ble_eq_true rfl) d_M_take_20 ⟨Nat.zero_le _, Nat.zero_le _⟩ ?_
          refine lv_if_eq (tgt := 31) hx hb d_M_take_23 (by decide) (fun c_23 => ?_) (fun c_23 => ?_)
          · skip
            refine lv_iconst (v := 0) hx hb d_M_take_31 (by decide) ?_
            refine va_iast hx hb hK hP hD hS 2 0 rfl rfl (in_k hq c_4 (by decide)) d_M_take_32 (fun H locs hP hD hS => ?_)
            have hP : va_P D vwCl [(b_x, .inr (9, [.ref b_row, .ref b_part, .ref b_mem, .ref b_mrk, .ref b_sf, .ref b_ss, .ref b_sr, .int m_on, .ref b_h, .int m_hc, .ref b_r, .int m_pc, .ref b_in, .int m_giv, .int m_tak, .ref b_out, .int m_put, .int m_st, .int m_cu, .int m_va, .int m_sp, .int m_un, .ref b_k, .int m_kc, .int m_kn, .int m_by, .int m_kd, .int m_tg, .int m_ju])), (b_row, .inl (tc 0, 2400, .inl rowT)), (b_part, .inl (tc 0, 4, .inl (upd m_partL k_2.toNatClampNeg 0)))] H := hP
            have hD : va_D A [(b_x, .inr (9, [.ref b_row, .ref b_part, .ref b_mem, .ref b_mrk, .ref b_sf, .ref b_ss, .ref b_sr, .int m_on, .ref b_h, .int m_hc, .ref b_r, .int m_pc, .ref b_in, .int m_giv, .int m_tak, .ref b_out, .int m_put, .int m_st, .int m_cu, .int m_va, .int m_sp, .int m_un, .ref b_k, .int m_kc, .int m_kn, .int m_by, .int m_kd, .int m_tg, .int m_ju])), (b_row, .inl (tc 0, 2400, .inl rowT)), (b_part, .inl (tc 0, 4, .inl (upd m_partL k_2.toNatClampNeg 0)))] := hD
            refine lv_iinc (v := (k_2 + 1)) (lv' := [(3, .int (k_2 + 1)), (0, .ref b_x), (1, .int x0), (2, .int x1)]) hx hb d_M_take_33 hl (k := 0) rfl rfl (by decide) rfl (fun ls hl => ?_)
            refine lv_goto (tgt := 2) hx hb d_M_take_36 (by decide) ?_
            exact ih_2 (k_2 + 1) (upd m_partL k_2.toNatClampNeg 0) _ _ ls (st_nn c_4 hq) (ms_step c_4 hm_2) (by have h := hX_2; rw [mF_StepMachineModel_take_L2, if_neg c_4, if_neg c_14, if_pos c_23] at h; exact h) hP hD hS (lv_sub hl [0, 1, 2, 3] rfl)
          · skip
            refine lv_bipush (v := 8) hx hb d_M_take_26 (by decide) ?_
            refine lv_goto (tgt := 32) hx hb d_M_take_28 (by decide) ?_
            refine va_iast hx hb hK hP hD hS 2 0 rfl rfl (in_k hq c_4 (by decide)) d_M_take_32 (fun H locs hP hD hS => ?_)
            have hP : va_P D vwCl [(b_x, .inr (9, [.ref b_row, .ref b_part, .ref b_mem, .ref b_mrk, .ref b_sf, .ref b_ss, .ref b_sr, .int m_on, .ref b_h, .int m_hc, .ref b_r, .int m_pc, .ref b_in, .int m_giv, .int m_tak, .ref b_out, .int m_put, .int m_st, .int m_cu, .int m_va, .int m_sp, .int m_un, .ref b_k, .int m_kc, .int m_kn, .int m_by, .int m_kd, .int m_tg, .int m_ju])), (b_row, .inl (tc 0, 2400, .inl rowT)), (b_part, .inl (tc 0, 4, .inl (upd m_partL k_2.toNatClampNeg 8)))] H := hP
            have hD : va_D A [(b_x, .inr (9, [.ref b_row, .ref b_part, .ref b_mem, .ref b_mrk, .ref b_sf, .ref b_ss, .ref b_sr, .int m_on, .ref b_h, .int m_hc, .ref b_r, .int m_pc, .ref b_in, .int m_giv, .int m_tak, .ref b_out, .int m_put, .int m_st, .int m_cu, .int m_va, .int m_sp, .int m_un, .ref b_k, .int m_kc, .int m_kn, .int m_by, .int m_kd, .int m_tg, .int m_ju])), (b_row, .inl (tc 0, 2400, .inl rowT)), (b_part, .inl (tc 0, 4, .inl (upd m_partL k_2.toNatClampNeg 8)))] := hD
            refine lv_iinc (v := (k_2 + 1)) (lv' := [(3, .int (k_2 + 1)), (0, .ref b_x), (1, .int x0), (2, .int x1)]) hx hb d_M_take_33 hl (k := 0) rfl rfl (by decide) rfl (fun ls hl => ?_)
            refine lv_goto (tgt := 2) hx hb d_M_take_36 (by decide) ?_
            exact ih_2 (k_2 + 1) (upd m_partL k_2.toNatClampNeg 8) _ _ ls (st_nn c_4 hq) (ms_step c_4 hm_2) (by have h := hX_2; rw [mF_StepMachineModel_take_L2, if_neg c_4, if_neg c_14, if_neg c_23] at h; exact h) hP hD hS (lv_sub hl [0, 1, 2, 3] rfl)
  obtain ⟨q_2, e_2⟩ : ∃ z, z = (mF_StepMachineModel_take_L2 x0 (((4 : Int32).toInt - (0 : Int32).toInt).toNat + 1) (0 : Int32) m_part) := ⟨_, rfl⟩
  refine loop_2 (((4 : Int32).toInt - (0 : Int32).toInt).toNat + 1) (0 : Int32) m_part _ _ ls (by decide) (Nat.lt_succ_self _) ?_ hP hD hS (lv_sub hl [0, 1, 2, 3] rfl)
  rw [← e_2]
  intro H locs ls hq hP hD hS hl
  have hP : va_P D vwCl [(b_x, .inr (9, [.ref b_row, .ref b_part, .ref b_mem, .ref b_mrk, .ref b_sf, .ref b_ss, .ref b_sr, .int m_on, .ref b_h, .int m_hc, .ref b_r, .int m_pc, .ref b_in, .int m_giv, .int m_tak, .ref b_out, .int m_put, .int m_st, .int m_cu, .int m_va, .int m_sp, .int m_un, .ref b_k, .int m_kc, .int m_kn, .int m_by, .int m_kd, .int m_tg, .int m_ju])), (b_row, .inl (tc 0, 2400, .inl rowT)), (b_part, .inl (tc 0, 4, .inl q_2.2))] H := hP
  have hD : va_D A [(b_x, .inr (9, [.ref b_row, .ref b_part, .ref b_mem, .ref b_mrk, .ref b_sf, .ref b_ss, .ref b_sr, .int m_on, .ref b_h, .int m_hc, .ref b_r, .int m_pc, .ref b_in, .int m_giv, .int m_tak, .ref b_out, .int m_put, .int m_st, .int m_cu, .int m_va, .int m_sp, .int m_un, .ref b_k, .int m_kc, .int m_kn, .int m_by, .int m_kd, .int m_tg, .int m_ju])), (b_row, .inl (tc 0, 2400, .inl rowT)), (b_part, .inl (tc 0, 4, .inl q_2.2))] := hD
  have hl : lv_has ls 6 [(3, .int q_2.1), (0, .ref b_x), (1, .int x0), (2, .int x1)] := hl
  refine lv_iconst (v := 0) hx hb d_M_take_39 (by decide) ?_
  refine lv_istore_n (lv' := [(3, .int 0), (0, .ref b_x), (1, .int x0), (2, .int x1)]) hx hb d_M_take_40 rfl hl (by decide) rfl (fun ls hl => ?_)
  have loop_41 : ∀ (n_41 : Nat) (k_41 : Int32) (m_partL : Nat → Int32) (H : Heap) (locs : List Loc) (ls : Array Slot), (0 ≤ k_41.toInt) → ((mF_StepMachineModel_bitsOf x0).toInt - k_41.toInt).toNat < n_41 → (mF_StepMachineModel_take_L41 x0 x1 n_41 k_41 m_partL) = (mF_StepMachineModel_take m_part x0 x1) → va_P D vwCl [(b_x, .inr (9, [.ref b_row, .ref b_part, .ref b_mem, .ref b_mrk, .ref b_sf, .ref b_ss, .ref b_sr, .int m_on, .ref b_h, .int m_hc, .ref b_r, .int m_pc, .ref b_in, .int m_giv, .int m_tak, .ref b_out, .int m_put, .int m_st, .int m_cu, .int m_va, .int m_sp, .int m_un, .ref b_k, .int m_kc, .int m_kn, .int m_by, .int m_kd, .int m_tg, .int m_ju])), (b_row, .inl (tc 0, 2400, .inl rowT)), (b_part, .inl (tc 0, 4, .inl m_partL))] H → va_D A [(b_x, .inr (9, [.ref b_row, .ref b_part, .ref b_mem, .ref b_mrk, .ref b_sf, .ref b_ss, .ref b_sr, .int m_on, .ref b_h, .int m_hc, .ref b_r, .int m_pc, .ref b_in, .int m_giv, .int m_tak, .ref b_out, .int m_put, .int m_st, .int m_cu, .int m_va, .int m_sp, .int m_un, .ref b_k, .int m_kc, .int m_kn, .int m_by, .int m_kd, .int m_tg, .int m_ju])), (b_row, .inl (tc 0, 2400, .inl rowT)), (b_part, .inl (tc 0, 4, .inl m_partL))] → va_S A s.heap H locs → lv_has ls 6 [(3, .int k_41), (0, .ref b_x), (1, .int x0), (2, .int x1)] → W p l e (headSpec (wM y_M_take b_M_take 6 (some .boolean)) ({ frames := 4, cells := 0, slots := 0, locals := 88 })).room s m ([.ref b_x, .int x0, .int x1]).toArray below meth c H locs 0 0 (MQ below (va_Qi (fun (r : Int32) (u : (Nat → Int32)) => (r, u) = (mF_StepMachineModel_take m_part x0 x1)) (Bw D tc A (fun u => [(b_x, .inr (9, [.ref b_row, .ref b_part, .ref b_mem, .ref b_mrk, .ref b_sf, .ref b_ss, .ref b_sr, .int m_on, .ref b_h, .int m_hc, .ref b_r, .int m_pc, .ref b_in, .int m_giv, .int m_tak, .ref b_out, .int m_put, .int m_st, .int m_cu, .int m_va, .int m_sp, .int m_un, .ref b_k, .int m_kc, .int m_kn, .int m_by, .int m_kd, .int m_tg, .int m_ju])), (b_row, .inl (tc 0, 2400, .inl rowT)), (b_part, .inl (tc 0, 4, .inl u))])) A) ([.ref b_x, .int x0, .int x1]).toArray s 0 0 A) (F0 m 41 ls []) := by
    intro n_41
    induction n_41 with
    | zero =>
      intro k_41 m_partL H locs ls hq hm
      exact absurd hm (Nat.not_lt_zero _)
    | succ n_41 ih_41 =>
      intro k_41 m_partL H locs ls hq hm_41 hF_41 hP hD hS hl
      refine lv_iload_n hx hb d_M_take_41 rfl (lv_at hl 0 rfl) ?_
      refine lv_iload_n hx hb d_M_take_42 rfl (lv_at hl 2 rfl) ?_
      refine roSi (As := [.int x0]) (rest := [.int k_41]) ⟨hx, hb, hml, hown, hts⟩ (mc_StepMachineModel_bitsOf l D tc tb z0 x0) (va_cwS 1 hts (goodS a_782 a_783 a_10 a_784) rfl rfl rfl hs_M_bitsOf ⟨Nat.le_of_ble_eq_true rfl, Nat.le_of_ble_eq_true rfl⟩) (hP.sub [] rfl) hK (hB.kept hS hZ) rfl hl.1 rfl (Nat.le_of_ble_eq_true rfl) d_M_take_43 ⟨Nat.zero_le _, Nat.zero_le _⟩ ?_
      refine lv_icmp_ge (tgt := 158) hx hb d_M_take_46 (by decide) (fun c_46 => ?_) (fun c_46 => ?_)
      · skip
        refine lv_iload_n hx hb d_M_take_158 rfl (lv_at hl 2 rfl) ?_
        refine roSi (As := [.int x0]) (rest := []) ⟨hx, hb, hml, hown, hts⟩ (mc_StepMachineModel_signOf l D tc tb z0 x0) (va_cwS 1 hts (goodS a_785 a_786 a_10 a_787) rfl rfl rfl hs_M_signOf ⟨Nat.le_of_ble_eq_true rfl, Nat.le_of_ble_eq_true rfl⟩) (hP.sub [] rfl) hK (hB.kept hS hZ) rfl hl.1 rfl (Nat.le_of_ble_eq_true rfl) d_M_take_159 ⟨Nat.zero_le _, Nat.zero_le _⟩ ?_
        refine lv_istore_n (lv' := [(3, .int (mF_StepMachineModel_signOf x0)), (0, .ref b_x), (1, .int x0), (2, .int x1)]) hx hb d_M_take_162 rfl hl (by decide) rfl (fun ls hl => ?_)
        refine lv_iload_n hx hb d_M_take_163 rfl (lv_at hl 0 rfl) ?_
        refine lv_if_lt (tgt := 189) hx hb d_M_take_164 (by decide) (fun c_164 => ?_) (fun c_164 => ?_)
        · skip
          refine lv_iload_n hx hb d_M_take_189 rfl (lv_at hl 2 rfl) ?_
          refine lv_bipush (v := 56) hx hb d_M_take_190 (by decide) ?_
          refine lv_icmp_ne (tgt := 210) hx hb d_M_take_192 (by decide) (fun c_192 => ?_) (fun c_192 => ?_)
          · skip
            refine lv_aload_n hx hb d_M_take_210 rfl (lv_at hl 1 rfl) ?_
            refine lv_iload_n hx hb d_M_take_211 rfl (lv_at hl 2 rfl) ?_
            refine roVi (As := [.int x0]) (rest := []) ⟨hx, hb, hml, hown, hts⟩ (mc_StepMachineModel_areGood l D tc tb z0 b_x b_row b_part b_mem b_mrk b_sf b_ss b_sr b_h b_r b_in b_out b_k m_on m_hc m_pc m_giv m_tak m_put m_st m_cu m_va m_sp m_un m_kc m_kn m_by m_kd m_tg m_ju m_partL x0 hk) (cwV 1 hts (goodV a_789 a_790 a_930 a_10 a_791) rfl rfl rfl hv_M_areGood ⟨Nat.le_of_ble_eq_true rfl, Nat.le_of_ble_eq_true rfl⟩) (hP.sub [0, 1, 2] rfl) hK (hB.kept hS hZ) rfl rfl rfl hl.1 rfl (Nat.le_of_ble_eq_true rfl) d_M_take_212 ⟨Nat.zero_le _, Nat.zero_le _⟩ ?_
            exact W.zret (v := (mF_StepMachineModel_areGood m_partL x0)) hx hb hr (zb_of (bo_mF_StepMachineModel_areGood _ _)) (fun t ht hW => ⟨⟨_, m_partL, rfl, by rw [← hF_41, mF_StepMachineModel_take_L41, if_pos c_46, if_pos c_164, if_neg c_192], by rw [ht]; exact hP, va_K.moved hW.alike hK, hD⟩, hS.F ht⟩) hS.2.2 d_M_take_215
          · skip
            refine lv_aload_n hx hb d_M_take_195 rfl (lv_at hl 1 rfl) ?_
            refine va_get (D := D) (ci := 9) (v := .ref b_part) (C := "StepMachineModel") (T := TX9) (N := 29) hx hb hts inU_9 hown hK hP 0 rfl rfl 1 (by decide) (hts _ a_634) (fun _ h9 => h9) rfl d_M_take_196 ?_
            refine lv_iconst (v := 3) hx hb d_M_take_199 (by decide) ?_
            refine lv_aload_n hx hb d_M_take_200 rfl (lv_at hl 1 rfl) ?_
            refine va_get (D := D) (ci := 9) (v := .ref b_part) (C := "StepMachineModel") (T := TX9) (N := 29) hx hb hts inU_9 hown hK hP 0 rfl rfl 1 (by decide) (hts _ a_634) (fun _ h9 => h9) rfl d_M_take_201 ?_
            refine lv_iconst (v := 3) hx hb d_M_take_204 (by decide) ?_
            refine va_iald hx hb hK hP 2 0 rfl rfl (vp_in_nI (n := 3) (N := 4) (by decide) (by decide)) d_M_take_205 ?_
            refine lv_ldc (v := 1048575) hx hb hown (hts _ a_788) d_M_take_206 ?_
            refine lv_iand hx hb d_M_take_208 ?_
            refine va_iast hx hb hK hP hD hS 2 0 rfl rfl (vp_in_nI (n := 3) (N := 4) (by decide) (by decide)) d_M_take_209 (fun H locs hP hD hS => ?_)
            have hP : va_P D vwCl [(b_x, .inr (9, [.ref b_row, .ref b_part, .ref b_mem, .ref b_mrk, .ref b_sf, .ref b_ss, .ref b_sr, .int m_on, .ref b_h, .int m_hc, .ref b_r, .int m_pc, .ref b_in, .int m_giv, .int m_tak, .ref b_out, .int m_put, .int m_st, .int m_cu, .int m_va, .int m_sp, .int m_un, .ref b_k, .int m_kc, .int m_kn, .int m_by, .int m_kd, .int m_tg, .int m_ju])), (b_row, .inl (tc 0, 2400, .inl rowT)), (b_part, .inl (tc 0, 4, .inl (upd m_partL (3 : Int32).toNatClampNeg ((m_partL (3 : Int32).toNatClampNeg) &&& 1048575))))] H := hP
            have hD : va_D A [(b_x, .inr (9, [.ref b_row, .ref b_part, .ref b_mem, .ref b_mrk, .ref b_sf, .ref b_ss, .ref b_sr, .int m_on, .ref b_h, .int m_hc, .ref b_r, .int m_pc, .ref b_in, .int m_giv, .int m_tak, .ref b_out, .int m_put, .int m_st, .int m_cu, .int m_va, .int m_sp, .int m_un, .ref b_k, .int m_kc, .int m_kn, .int m_by, .int m_kd, .int m_tg, .int m_ju])), (b_row, .inl (tc 0, 2400, .inl rowT)), (b_part, .inl (tc 0, 4, .inl (upd m_partL (3 : Int32).toNatClampNeg ((m_partL (3 : Int32).toNatClampNeg) &&& 1048575))))] := hD
            refine lv_aload_n hx hb d_M_take_210 rfl (lv_at hl 1 rfl) ?_
            refine lv_iload_n hx hb d_M_take_211 rfl (lv_at hl 2 rfl) ?_
            refine roVi (As := [.int x0]) (rest := []) ⟨hx, hb, hml, hown, hts⟩ (mc_StepMachineModel_areGood l D tc tb z0 b_x b_row b_part b_mem b_mrk b_sf b_ss b_sr b_h b_r b_in b_out b_k m_on m_hc m_pc m_giv m_tak m_put m_st m_cu m_va m_sp m_un m_kc m_kn m_by m_kd m_tg m_ju (upd m_partL (3 : Int32).toNatClampNeg ((m_partL (3 : Int32).toNatClampNeg) &&& 1048575)) x0 hk) (cwV 1 hts (goodV a_789 a_790 a_930 a_10 a_791) rfl rfl rfl hv_M_areGood ⟨Nat.le_of_ble_eq_true rfl, Nat.le_of_ble_eq_true rfl⟩) (hP.sub [0, 1, 2] rfl) hK (hB.kept hS hZ) rfl rfl rfl hl.1 rfl (Nat.le_of_ble_eq_true rfl) d_M_take_212 ⟨Nat.zero_le _, Nat.zero_le _⟩ ?_
            exact W.zret (v := (mF_StepMachineModel_areGood (upd m_partL (3 : Int32).toNatClampNeg ((m_partL (3 : Int32).toNatClampNeg) &&& 1048575)) x0)) hx hb hr (zb_of (bo_mF_StepMachineModel_areGood _ _)) (fun t ht hW => ⟨⟨_, (upd m_partL (3 : Int32).toNatClampNeg ((m_partL (3 : Int32).toNatClampNeg) &&& 1048575)), rfl, by rw [← hF_41, mF_StepMachineModel_take_L41, if_pos c_46, if_pos c_164, if_pos c_192], by rw [ht]; exact hP, va_K.moved hW.alike hK, hD⟩, hS.F ht⟩) hS.2.2 d_M_take_215
        · skip
          refine lv_aload_n hx hb d_M_take_167 rfl (lv_at hl 1 rfl) ?_
          refine va_get (D := D) (ci := 9) (v := .ref b_part) (C := "StepMachineModel") (T := TX9) (N := 29) hx hb hts inU_9 hown hK hP 0 rfl rfl 1 (by decide) (hts _ a_634) (fun _ h9 => h9) rfl d_M_take_168 ?_
          refine lv_iconst (v := 3) hx hb d_M_take_171 (by decide) ?_
          refine lv_aload_n hx hb d_M_take_172 rfl (lv_at hl 1 rfl) ?_
          refine va_get (D := D) (ci := 9) (v := .ref b_part) (C := "StepMachineModel") (T := TX9) (N := 29) hx hb hts inU_9 hown hK hP 0 rfl rfl 1 (by decide) (hts _ a_634) (fun _ h9 => h9) rfl d_M_take_173 ?_
          refine lv_iconst (v := 3) hx hb d_M_take_176 (by decide) ?_
          refine va_iald hx hb hK hP 2 0 rfl rfl (vp_in_nI (n := 3) (N := 4) (by decide) (by decide)) d_M_take_177 ?_
          refine lv_bipush (v := 31) hx hb d_M_take_178 (by decide) ?_
          refine lv_iload_n hx hb d_M_take_180 rfl (lv_at hl 0 rfl) ?_
          refine lv_isub hx hb d_M_take_181 ?_
          refine lv_ishl hx hb d_M_take_182 ?_
          refine lv_bipush (v := 31) hx hb d_M_take_183 (by decide) ?_
          refine lv_iload_n hx hb d_M_take_185 rfl (lv_at hl 0 rfl) ?_
          refine lv_isub hx hb d_M_take_186 ?_
          refine lv_ishr hx hb d_M_take_187 ?_
          refine va_iast hx hb hK hP hD hS 2 0 rfl rfl (vp_in_nI (n := 3) (N := 4) (by decide) (by decide)) d_M_take_188 (fun H locs hP hD hS => ?_)
          have hP : va_P D vwCl [(b_x, .inr (9, [.ref b_row, .ref b_part, .ref b_mem, .ref b_mrk, .ref b_sf, .ref b_ss, .ref b_sr, .int m_on, .ref b_h, .int m_hc, .ref b_r, .int m_pc, .ref b_in, .int m_giv, .int m_tak, .ref b_out, .int m_put, .int m_st, .int m_cu, .int m_va, .int m_sp, .int m_un, .ref b_k, .int m_kc, .int m_kn, .int m_by, .int m_kd, .int m_tg, .int m_ju])), (b_row, .inl (tc 0, 2400, .inl rowT)), (b_part, .inl (tc 0, 4, .inl (upd m_partL (3 : Int32).toNatClampNeg (((m_partL (3 : Int32).toNatClampNeg) <<< ((31 - (mF_StepMachineModel_signOf x0)) &&& 31)) >>> ((31 - (mF_StepMachineModel_signOf x0)) &&& 31)))))] H := hP
          have hD : va_D A [(b_x, .inr (9, [.ref b_row, .ref b_part, .ref b_mem, .ref b_mrk, .ref b_sf, .ref b_ss, .ref b_sr, .int m_on, .ref b_h, .int m_hc, .ref b_r, .int m_pc, .ref b_in, .int m_giv, .int m_tak, .ref b_out, .int m_put, .int m_st, .int m_cu, .int m_va, .int m_sp, .int m_un, .ref b_k, .int m_kc, .int m_kn, .int m_by, .int m_kd, .int m_tg, .int m_ju])), (b_row, .inl (tc 0, 2400, .inl rowT)), (b_part, .inl (tc 0, 4, .inl (upd m_partL (3 : Int32).toNatClampNeg (((m_partL (3 : Int32).toNatClampNeg) <<< ((31 - (mF_StepMachineModel_signOf x0)) &&& 31)) >>> ((31 - (mF_StepMachineModel_signOf x0)) &&& 31)))))] := hD
          refine lv_iload_n hx hb d_M_take_189 rfl (lv_at hl 2 rfl) ?_
          refine lv_bipush (v := 56) hx hb d_M_take_190 (by decide) ?_
          refine lv_icmp_ne (tgt := 210) hx hb d_M_take_192 (by decide) (fun c_192 => ?_) (fun c_192 => ?_)
          · skip
            refine lv_aload_n hx hb d_M_take_210 rfl (lv_at hl 1 rfl) ?_
            refine lv_iload_n hx hb d_M_take_211 rfl (lv_at hl 2 rfl) ?_
            refine roVi (As := [.int x0]) (rest := []) ⟨hx, hb, hml, hown, hts⟩ (mc_StepMachineModel_areGood l D tc tb z0 b_x b_row b_part b_mem b_mrk b_sf b_ss b_sr b_h b_r b_in b_out b_k m_on m_hc m_pc m_giv m_tak m_put m_st m_cu m_va m_sp m_un m_kc m_kn m_by m_kd m_tg m_ju (upd m_partL (3 : Int32).toNatClampNeg (((m_partL (3 : Int32).toNatClampNeg) <<< ((31 - (mF_StepMachineModel_signOf x0)) &&& 31)) >>> ((31 - (mF_StepMachineModel_signOf x0)) &&& 31))) x0 hk) (cwV 1 hts (goodV a_789 a_790 a_930 a_10 a_791) rfl rfl rfl hv_M_areGood ⟨Nat.le_of_ble_eq_true rfl, Nat.le_of_ble_eq_true rfl⟩) (hP.sub [0, 1, 2] rfl) hK (hB.kept hS hZ) rfl rfl rfl hl.1 rfl (Nat.le_of_ble_eq_true rfl) d_M_take_212 ⟨Nat.zero_le _, Nat.zero_le _⟩ ?_
            exact W.zret (v := (mF_StepMachineModel_areGood (upd m_partL (3 : Int32).toNatClampNeg (((m_partL (3 : Int32).toNatClampNeg) <<< ((31 - (mF_StepMachineModel_signOf x0)) &&& 31)) >>> ((31 - (mF_StepMachineModel_signOf x0)) &&& 31))) x0)) hx hb hr (zb_of (bo_mF_StepMachineModel_areGood _ _)) (fun t ht hW => ⟨⟨_, (upd m_partL (3 : Int32).toNatClampNeg (((m_partL (3 : Int32).toNatClampNeg) <<< ((31 - (mF_StepMachineModel_signOf x0)) &&& 31)) >>> ((31 - (mF_StepMachineModel_signOf x0)) &&& 31))), rfl, by rw [← hF_41, mF_StepMachineModel_take_L41, if_pos c_46, if_neg c_164, if_neg c_192], by rw [ht]; exact hP, va_K.moved hW.alike hK, hD⟩, hS.F ht⟩) hS.2.2 d_M_take_215
          · skip
            refine lv_aload_n hx hb d_M_take_195 rfl (lv_at hl 1 rfl) ?_
            refine va_get (D := D) (ci := 9) (v := .ref b_part) (C := "StepMachineModel") (T := TX9) (N := 29) hx hb hts inU_9 hown hK hP 0 rfl rfl 1 (by decide) (hts _ a_634) (fun _ h9 => h9) rfl d_M_take_196 ?_
            refine lv_iconst (v := 3) hx hb d_M_take_199 (by decide) ?_
            refine lv_aload_n hx hb d_M_take_200 rfl (lv_at hl 1 rfl) ?_
            refine va_get (D := D) (ci := 9) (v := .ref b_part) (C := "StepMachineModel") (T := TX9) (N := 29) hx hb hts inU_9 hown hK hP 0 rfl rfl 1 (by decide) (hts _ a_634) (fun _ h9 => h9) rfl d_M_take_201 ?_
            refine lv_iconst (v := 3) hx hb d_M_take_204 (by decide) ?_
            refine va_iald hx hb hK hP 2 0 rfl rfl (vp_in_nI (n := 3) (N := 4) (by decide) (by decide)) d_M_take_205 ?_
            refine lv_ldc (v := 1048575) hx hb hown (hts _ a_788) d_M_take_206 ?_
            refine lv_iand hx hb d_M_take_208 ?_
            refine va_iast hx hb hK hP hD hS 2 0 rfl rfl (vp_in_nI (n := 3) (N := 4) (by decide) (by decide)) d_M_take_209 (fun H locs hP hD hS => ?_)
            have hP : va_P D vwCl [(b_x, .inr (9, [.ref b_row, .ref b_part, .ref b_mem, .ref b_mrk, .ref b_sf, .ref b_ss, .ref b_sr, .int m_on, .ref b_h, .int m_hc, .ref b_r, .int m_pc, .ref b_in, .int m_giv, .int m_tak, .ref b_out, .int m_put, .int m_st, .int m_cu, .int m_va, .int m_sp, .int m_un, .ref b_k, .int m_kc, .int m_kn, .int m_by, .int m_kd, .int m_tg, .int m_ju])), (b_row, .inl (tc 0, 2400, .inl rowT)), (b_part, .inl (tc 0, 4, .inl (upd (upd m_partL (3 : Int32).toNatClampNeg (((m_partL (3 : Int32).toNatClampNeg) <<< ((31 - (mF_StepMachineModel_signOf x0)) &&& 31)) >>> ((31 - (mF_StepMachineModel_signOf x0)) &&& 31))) (3 : Int32).toNatClampNeg (((upd m_partL (3 : Int32).toNatClampNeg (((m_partL (3 : Int32).toNatClampNeg) <<< ((31 - (mF_StepMachineModel_signOf x0)) &&& 31)) >>> ((31 - (mF_StepMachineModel_signOf x0)) &&& 31))) (3 : Int32).toNatClampNeg) &&& 1048575))))] H := hP
            have hD : va_D A [(b_x, .inr (9, [.ref b_row, .ref b_part, .ref b_mem, .ref b_mrk, .ref b_sf, .ref b_ss, .ref b_sr, .int m_on, .ref b_h, .int m_hc, .ref b_r, .int m_pc, .ref b_in, .int m_giv, .int m_tak, .ref b_out, .int m_put, .int m_st, .int m_cu, .int m_va, .int m_sp, .int m_un, .ref b_k, .int m_kc, .int m_kn, .int m_by, .int m_kd, .int m_tg, .int m_ju])), (b_row, .inl (tc 0, 2400, .inl rowT)), (b_part, .inl (tc 0, 4, .inl (upd (upd m_partL (3 : Int32).toNatClampNeg (((m_partL (3 : Int32).toNatClampNeg) <<< ((31 - (mF_StepMachineModel_signOf x0)) &&& 31)) >>> ((31 - (mF_StepMachineModel_signOf x0)) &&& 31))) (3 : Int32).toNatClampNeg (((upd m_partL (3 : Int32).toNatClampNeg (((m_partL (3 : Int32).toNatClampNeg) <<< ((31 - (mF_StepMachineModel_signOf x0)) &&& 31)) >>> ((31 - (mF_StepMachineModel_signOf x0)) &&& 31))) (3 : Int32).toNatClampNeg) &&& 1048575))))] := hD
            refine lv_aload_n hx hb d_M_take_210 rfl (lv_at hl 1 rfl) ?_
            refine lv_iload_n hx hb d_M_take_211 rfl (lv_at hl 2 rfl) ?_
            refine roVi (As := [.int x0]) (rest := []) ⟨hx, hb, hml, hown, hts⟩ (mc_StepMachineModel_areGood l D tc tb z0 b_x b_row b_part b_mem b_mrk b_sf b_ss b_sr b_h b_r b_in b_out b_k m_on m_hc m_pc m_giv m_tak m_put m_st m_cu m_va m_sp m_un m_kc m_kn m_by m_kd m_tg m_ju (upd (upd m_partL (3 : Int32).toNatClampNeg (((m_partL (3 : Int32).toNatClampNeg) <<< ((31 - (mF_StepMachineModel_signOf x0)) &&& 31)) >>> ((31 - (mF_StepMachineModel_signOf x0)) &&& 31))) (3 : Int32).toNatClampNeg (((upd m_partL (3 : Int32).toNatClampNeg (((m_partL (3 : Int32).toNatClampNeg) <<< ((31 - (mF_StepMachineModel_signOf x0)) &&& 31)) >>> ((31 - (mF_StepMachineModel_signOf x0)) &&& 31))) (3 : Int32).toNatClampNeg) &&& 1048575)) x0 hk) (cwV 1 hts (goodV a_789 a_790 a_930 a_10 a_791) rfl rfl rfl hv_M_areGood ⟨Nat.le_of_ble_eq_true rfl, Nat.le_of_ble_eq_true rfl⟩) (hP.sub [0, 1, 2] rfl) hK (hB.kept hS hZ) rfl rfl rfl hl.1 rfl (Nat.le_of_ble_eq_true rfl) d_M_take_212 ⟨Nat.zero_le _, Nat.zero_le _⟩ ?_
            exact W.zret (v := (mF_StepMachineModel_areGood (upd (upd m_partL (3 : Int32).toNatClampNeg (((m_partL (3 : Int32).toNatClampNeg) <<< ((31 - (mF_StepMachineModel_signOf x0)) &&& 31)) >>> ((31 - (mF_StepMachineModel_signOf x0)) &&& 31))) (3 : Int32).toNatClampNeg (((upd m_partL (3 : Int32).toNatClampNeg (((m_partL (3 : Int32).toNatClampNeg) <<< ((31 - (mF_StepMachineModel_signOf x0)) &&& 31)) >>> ((31 - (mF_StepMachineModel_signOf x0)) &&& 31))) (3 : Int32).toNatClampNeg) &&& 1048575)) x0)) hx hb hr (zb_of (bo_mF_StepMachineModel_areGood _ _)) (fun t ht hW => ⟨⟨_, (upd (upd m_partL (3 : Int32).toNatClampNeg (((m_partL (3 : Int32).toNatClampNeg) <<< ((31 - (mF_StepMachineModel_signOf x0)) &&& 31)) >>> ((31 - (mF_StepMachineModel_signOf x0)) &&& 31))) (3 : Int32).toNatClampNeg (((upd m_partL (3 : Int32).toNatClampNeg (((m_partL (3 : Int32).toNatClampNeg) <<< ((31 - (mF_StepMachineModel_signOf x0)) &&& 31)) >>> ((31 - (mF_StepMachineModel_signOf x0)) &&& 31))) (3 : Int32).toNatClampNeg) &&& 1048575)), rfl, by rw [← hF_41, mF_StepMachineModel_take_L41, if_pos c_46, if_neg c_164, if_pos c_192], by rw [ht]; exact hP, va_K.moved hW.alike hK, hD⟩, hS.F ht⟩) hS.2.2 d_M_take_215
      · skip
        refine lv_aload_n hx hb d_M_take_49 rfl (lv_at hl 1 rfl) ?_
        refine va_get (D := D) (ci := 9) (v := .ref b_row) (C := "StepMachineModel") (T := TX9) (N := 29) hx hb hts inU_9 hown hK hP 0 rfl rfl 0 (by decide) (hts _ a_633) (fun _ h9 => h9) rfl d_M_take_50 ?_
        refine lv_bipush (v := 32) hx hb d_M_take_53 (by decide) ?_
        refine lv_iload_n hx hb d_M_take_55 rfl (lv_at hl 2 rfl) ?_
        refine lv_imul hx hb d_M_take_56 ?_
        refine lv_iload_n hx hb d_M_take_57 rfl (lv_at hl 0 rfl) ?_
        refine lv_iadd hx hb d_M_take_58 ?_
        refine va_iald hx hb hK hP 1 0 rfl rfl (ob_row2 hk c_46 hq) d_M_take_59 ?_
        refine lv_istore (lv' := [(4, .int (rowT ((32 * x0) + k_41).toNatClampNeg)), (3, .int k_41), (0, .ref b_x), (1, .int x0), (2, .int x1)]) hx hb d_M_take_60 hl (by decide) rfl (fun ls hl => ?_)
        refine lv_iload_n hx hb d_M_take_62 rfl (lv_at hl 4 rfl) ?_
        refine lv_iload_n hx hb d_M_take_63 rfl (lv_at hl 1 rfl) ?_
        refine lv_ishr hx hb d_M_take_64 ?_
        refine lv_iconst (v := 1) hx hb d_M_take_65 (by decide) ?_
        refine lv_iand hx hb d_M_take_66 ?_
        refine lv_istore (lv' := [(5, .int ((x1 >>> (k_41 &&& 31)) &&& 1)), (4, .int (rowT ((32 * x0) + k_41).toNatClampNeg)), (3, .int k_41), (0, .ref b_x), (1, .int x0), (2, .int x1)]) hx hb d_M_take_67 hl (by decide) rfl (fun ls hl => ?_)
        refine lv_iload hx hb d_M_take_69 (lv_at hl 1 rfl) ?_
        refine lv_iconst (v := 2) hx hb d_M_take_71 (by decide) ?_
        refine lv_icmp_ge (tgt := 84) hx hb d_M_take_72 (by decide) (fun c_72 => ?_) (fun c_72 => ?_)
        · skip
          refine lv_iload hx hb d_M_take_84 (lv_at hl 1 rfl) ?_
          refine lv_iconst (v := 1) hx hb d_M_take_86 (by decide) ?_
          refine lv_icmp_le (tgt := 121) hx hb d_M_take_87 (by decide) (fun c_87 => ?_) (fun c_87 => ?_)
          · skip
            refine lv_iload hx hb d_M_take_121 (lv_at hl 1 rfl) ?_
            refine lv_sipush (v := 500) hx hb d_M_take_123 (by decide) ?_
            refine lv_icmp_lt (tgt := 152) hx hb d_M_take_126 (by decide) (fun c_126 => ?_) (fun c_126 => ?_)
            · skip
              refine lv_iinc (v := (k_41 + 1)) (lv' := [(3, .int (k_41 + 1)), (5, .int ((x1 >>> (k_41 &&& 31)) &&& 1)), (4, .int (rowT ((32 * x0) + k_41).toNatClampNeg)), (0, .ref b_x), (1, .int x0), (2, .int x1)]) hx hb d_M_take_152 hl (k := 2) rfl rfl (by decide) rfl (fun ls hl => ?_)
              refine lv_goto (tgt := 41) hx hb d_M_take_155 (by decide) ?_
              exact ih_41 (k_41 + 1) m_partL _ _ ls (st_nn c_46 hq) (ms_step c_46 hm_41) (by rw [← hF_41, mF_StepMachineModel_take_L41, if_neg c_46, if_pos c_72, if_pos c_87, if_pos c_126]) hP hD hS (lv_sub hl [0, 3, 4, 5] rfl)
            · skip
              refine lv_aload_n hx hb d_M_take_129 rfl (lv_at hl 3 rfl) ?_
              refine va_get (D := D) (ci := 9) (v := .ref b_part) (C := "StepMachineModel") (T := TX9) (N := 29) hx hb hts inU_9 hown hK hP 0 rfl rfl 1 (by decide) (hts _ a_634) (fun _ h9 => h9) rfl d_M_take_130 ?_
              refine lv_iload hx hb d_M_take_133 (lv_at hl 1 rfl) ?_
              refine lv_bipush (v := 100) hx hb d_M_take_135 (by decide) ?_
              refine lv_idiv hx hb d_M_take_137 (by decide) ?_
              refine lv_iconst (v := 5) hx hb d_M_take_138 (by decide) ?_
              refine lv_isub hx hb d_M_take_139 ?_
              refine lv_dup2_11 hx hb d_M_take_140 rfl rfl ?_
              refine va_iald hx hb hK hP 2 0 rfl rfl (p5_take c_126) d_M_take_141 ?_
              refine lv_iload hx hb d_M_take_142 (lv_at hl 0 rfl) ?_
              refine lv_iload hx hb d_M_take_144 (lv_at hl 1 rfl) ?_
              refine lv_bipush (v := 100) hx hb d_M_take_146 (by decide) ?_
              refine lv_irem hx hb d_M_take_148 (by decide) ?_
              refine lv_ishl hx hb d_M_take_149 ?_
              refine lv_iadd hx hb d_M_take_150 ?_
              refine va_iast hx hb hK hP hD hS 2 0 rfl rfl (p5_take c_126) d_M_take_151 (fun H locs hP hD hS => ?_)
              have hP : va_P D vwCl [(b_x, .inr (9, [.ref b_row, .ref b_part, .ref b_mem, .ref b_mrk, .ref b_sf, .ref b_ss, .ref b_sr, .int m_on, .ref b_h, .int m_hc, .ref b_r, .int m_pc, .ref b_in, .int m_giv, .int m_tak, .ref b_out, .int m_put, .int m_st, .int m_cu, .int m_va, .int m_sp, .int m_un, .ref b_k, .int m_kc, .int m_kn, .int m_by, .int m_kd, .int m_tg, .int m_ju])), (b_row, .inl (tc 0, 2400, .inl rowT)), (b_part, .inl (tc 0, 4, .inl (upd m_partL (((rowT ((32 * x0) + k_41).toNatClampNeg) / 100) - 5).toNatClampNeg ((m_partL (((rowT ((32 * x0) + k_41).toNatClampNeg) / 100) - 5).toNatClampNeg) + (((x1 >>> (k_41 &&& 31)) &&& 1) <<< (((rowT ((32 * x0) + k_41).toNatClampNeg) - (rowT ((32 * x0) + k_41).toNatClampNeg) / 100 * 100) &&& 31))))))] H := hP
              have hD : va_D A [(b_x, .inr (9, [.ref b_row, .ref b_part, .ref b_mem, .ref b_mrk, .ref b_sf, .ref b_ss, .ref b_sr, .int m_on, .ref b_h, .int m_hc, .ref b_r, .int m_pc, .ref b_in, .int m_giv, .int m_tak, .ref b_out, .int m_put, .int m_st, .int m_cu, .int m_va, .int m_sp, .int m_un, .ref b_k, .int m_kc, .int m_kn, .int m_by, .int m_kd, .int m_tg, .int m_ju])), (b_row, .inl (tc 0, 2400, .inl rowT)), (b_part, .inl (tc 0, 4, .inl (upd m_partL (((rowT ((32 * x0) + k_41).toNatClampNeg) / 100) - 5).toNatClampNeg ((m_partL (((rowT ((32 * x0) + k_41).toNatClampNeg) / 100) - 5).toNatClampNeg) + (((x1 >>> (k_41 &&& 31)) &&& 1) <<< (((rowT ((32 * x0) + k_41).toNatClampNeg) - (rowT ((32 * x0) + k_41).toNatClampNeg) / 100 * 100) &&& 31))))))] := hD
              refine lv_iinc (v := (k_41 + 1)) (lv' := [(3, .int (k_41 + 1)), (5, .int ((x1 >>> (k_41 &&& 31)) &&& 1)), (4, .int (rowT ((32 * x0) + k_41).toNatClampNeg)), (0, .ref b_x), (1, .int x0), (2, .int x1)]) hx hb d_M_take_152 hl (k := 2) rfl rfl (by decide) rfl (fun ls hl => ?_)
              refine lv_goto (tgt := 41) hx hb d_M_take_155 (by decide) ?_
              exact ih_41 (k_41 + 1) (upd m_partL (((rowT ((32 * x0) + k_41).toNatClampNeg) / 100) - 5).toNatClampNeg ((m_partL (((rowT ((32 * x0) + k_41).toNatClampNeg) / 100) - 5).toNatClampNeg) + (((x1 >>> (k_41 &&& 31)) &&& 1) <<< (((rowT ((32 * x0) + k_41).toNatClampNeg) - (rowT ((32 * x0) + k_41).toNatClampNeg) / 100 * 100) &&& 31)))) _ _ ls (st_nn c_46 hq) (ms_step c_46 hm_41) (by rw [← hF_41, mF_StepMachineModel_take_L41, if_neg c_46, if_pos c_72, if_pos c_87, if_neg c_126]) hP hD hS (lv_sub hl [0, 3, 4, 5] rfl)
          · skip
            refine lv_iload hx hb d_M_take_90 (lv_at hl 1 rfl) ?_
            refine lv_sipush (v := 500) hx hb d_M_take_92 (by decide) ?_
            refine lv_icmp_ge (tgt := 121) hx hb d_M_take_95 (by decide) (fun c_95 => ?_) (fun c_95 => ?_)
            · skip
              refine lv_iload hx hb d_M_take_121 (lv_at hl 1 rfl) ?_
              refine lv_sipush (v := 500) hx hb d_M_take_123 (by decide) ?_
              refine lv_icmp_lt (tgt := 152) hx hb d_M_take_126 (by decide) (fun c_126 => ?_) (fun c_126 => ?_)
              · skip
                refine lv_iinc (v := (k_41 + 1)) (lv' := [(3, .int (k_41 + 1)), (5, .int ((x1 >>> (k_41 &&& 31)) &&& 1)), (4, .int (rowT ((32 * x0) + k_41).toNatClampNeg)), (0, .ref b_x), (1, .int x0), (2, .int x1)]) hx hb d_M_take_152 hl (k := 2) rfl rfl (by decide) rfl (fun ls hl => ?_)
                refine lv_goto (tgt := 41) hx hb d_M_take_155 (by decide) ?_
                exact ih_41 (k_41 + 1) m_partL _ _ ls (st_nn c_46 hq) (ms_step c_46 hm_41) (by rw [← hF_41, mF_StepMachineModel_take_L41, if_neg c_46, if_pos c_72, if_neg c_87, if_pos c_95, if_pos c_126]) hP hD hS (lv_sub hl [0, 3, 4, 5] rfl)
              · skip
                refine lv_aload_n hx hb d_M_take_129 rfl (lv_at hl 3 rfl) ?_
                refine va_get (D := D) (ci := 9) (v := .ref b_part) (C := "StepMachineModel") (T := TX9) (N := 29) hx hb hts inU_9 hown hK hP 0 rfl rfl 1 (by decide) (hts _ a_634) (fun _ h9 => h9) rfl d_M_take_130 ?_
                refine lv_iload hx hb d_M_take_133 (lv_at hl 1 rfl) ?_
                refine lv_bipush (v := 100) hx hb d_M_take_135 (by decide) ?_
                refine lv_idiv hx hb d_M_take_137 (by decide) ?_
                refine lv_iconst (v := 5) hx hb d_M_take_138 (by decide) ?_
                refine lv_isub hx hb d_M_take_139 ?_
                refine lv_dup2_11 hx hb d_M_take_140 rfl rfl ?_
                refine va_iald hx hb hK hP 2 0 rfl rfl (p5_take c_126) d_M_take_141 ?_
                refine lv_iload hx hb d_M_take_142 (lv_at hl 0 rfl) ?_
                refine lv_iload hx hb d_M_take_144 (lv_at hl 1 rfl) ?_
                refine lv_bipush (v := 100) hx hb d_M_take_146 (by decide) ?_
                refine lv_irem hx hb d_M_take_148 (by decide) ?_
                refine lv_ishl hx hb d_M_take_149 ?_
                refine lv_iadd hx hb d_M_take_150 ?_
                refine va_iast hx hb hK hP hD hS 2 0 rfl rfl (p5_take c_126) d_M_take_151 (fun H locs hP hD hS => ?_)
                have hP : va_P D vwCl [(b_x, .inr (9, [.ref b_row, .ref b_part, .ref b_mem, .ref b_mrk, .ref b_sf, .ref b_ss, .ref b_sr, .int m_on, .ref b_h, .int m_hc, .ref b_r, .int m_pc, .ref b_in, .int m_giv, .int m_tak, .ref b_out, .int m_put, .int m_st, .int m_cu, .int m_va, .int m_sp, .int m_un, .ref b_k, .int m_kc, .int m_kn, .int m_by, .int m_kd, .int m_tg, .int m_ju])), (b_row, .inl (tc 0, 2400, .inl rowT)), (b_part, .inl (tc 0, 4, .inl (upd m_partL (((rowT ((32 * x0) + k_41).toNatClampNeg) / 100) - 5).toNatClampNeg ((m_partL (((rowT ((32 * x0) + k_41).toNatClampNeg) / 100) - 5).toNatClampNeg) + (((x1 >>> (k_41 &&& 31)) &&& 1) <<< (((rowT ((32 * x0) + k_41).toNatClampNeg) - (rowT ((32 * x0) + k_41).toNatClampNeg) / 100 * 100) &&& 31))))))] H := hP
                have hD : va_D A [(b_x, .inr (9, [.ref b_row, .ref b_part, .ref b_mem, .ref b_mrk, .ref b_sf, .ref b_ss, .ref b_sr, .int m_on, .ref b_h, .int m_hc, .ref b_r, .int m_pc, .ref b_in, .int m_giv, .int m_tak, .ref b_out, .int m_put, .int m_st, .int m_cu, .int m_va, .int m_sp, .int m_un, .ref b_k, .int m_kc, .int m_kn, .int m_by, .int m_kd, .int m_tg, .int m_ju])), (b_row, .inl (tc 0, 2400, .inl rowT)), (b_part, .inl (tc 0, 4, .inl (upd m_partL (((rowT ((32 * x0) + k_41).toNatClampNeg) / 100) - 5).toNatClampNeg ((m_partL (((rowT ((32 * x0) + k_41).toNatClampNeg) / 100) - 5).toNatClampNeg) + (((x1 >>> (k_41 &&& 31)) &&& 1) <<< (((rowT ((32 * x0) + k_41).toNatClampNeg) - (rowT ((32 * x0) + k_41).toNatClampNeg) / 100 * 100) &&& 31))))))] := hD
                refine lv_iinc (v := (k_41 + 1)) (lv' := [(3, .int (k_41 + 1)), (5, .int ((x1 >>> (k_41 &&& 31)) &&& 1)), (4, .int (rowT ((32 * x0) + k_41).toNatClampNeg)), (0, .ref b_x), (1, .int x0), (2, .int x1)]) hx hb d_M_take_152 hl (k := 2) rfl rfl (by decide) rfl (fun ls hl => ?_)
                refine lv_goto (tgt := 41) hx hb d_M_take_155 (by decide) ?_
                exact ih_41 (k_41 + 1) (upd m_partL (((rowT ((32 * x0) + k_41).toNatClampNeg) / 100) - 5).toNatClampNeg ((m_partL (((rowT ((32 * x0) + k_41).toNatClampNeg) / 100) - 5).toNatClampNeg) + (((x1 >>> (k_41 &&& 31)) &&& 1) <<< (((rowT ((32 * x0) + k_41).toNatClampNeg) - (rowT ((32 * x0) + k_41).toNatClampNeg) / 100 * 100) &&& 31)))) _ _ ls (st_nn c_46 hq) (ms_step c_46 hm_41) (by rw [← hF_41, mF_StepMachineModel_take_L41, if_neg c_46, if_pos c_72, if_neg c_87, if_pos c_95, if_neg c_126]) hP hD hS (lv_sub hl [0, 3, 4, 5] rfl)
            · skip
              refine lv_aload_n hx hb d_M_take_98 rfl (lv_at hl 3 rfl) ?_
              refine va_get (D := D) (ci := 9) (v := .ref b_part) (C := "StepMachineModel") (T := TX9) (N := 29) hx hb hts inU_9 hown hK hP 0 rfl rfl 1 (by decide) (hts _ a_634) (fun _ h9 => h9) rfl d_M_take_99 ?_
              refine lv_iload hx hb d_M_take_102 (lv_at hl 1 rfl) ?_
              refine lv_bipush (v := 100) hx hb d_M_take_104 (by decide) ?_
              refine lv_idiv hx hb d_M_take_106 (by decide) ?_
              refine lv_iconst (v := 1) hx hb d_M_take_107 (by decide) ?_
              refine lv_isub hx hb d_M_take_108 ?_
              refine lv_dup2_11 hx hb d_M_take_109 rfl rfl ?_
              refine va_iald hx hb hK hP 2 0 rfl rfl (p1_take c_87 c_95) d_M_take_110 ?_
              refine lv_iload hx hb d_M_take_111 (lv_at hl 0 rfl) ?_
              refine lv_iload hx hb d_M_take_113 (lv_at hl 1 rfl) ?_
              refine lv_bipush (v := 100) hx hb d_M_take_115 (by decide) ?_
              refine lv_irem hx hb d_M_take_117 (by decide) ?_
              refine lv_ishl hx hb d_M_take_118 ?_
              refine lv_iadd hx hb d_M_take_119 ?_
              refine va_iast hx hb hK hP hD hS 2 0 rfl rfl (p1_take c_87 c_95) d_M_take_120 (fun H locs hP hD hS => ?_)
              have hP : va_P D vwCl [(b_x, .inr (9, [.ref b_row, .ref b_part, .ref b_mem, .ref b_mrk, .ref b_sf, .ref b_ss, .ref b_sr, .int m_on, .ref b_h, .int m_hc, .ref b_r, .int m_pc, .ref b_in, .int m_giv, .int m_tak, .ref b_out, .int m_put, .int m_st, .int m_cu, .int m_va, .int m_sp, .int m_un, .ref b_k, .int m_kc, .int m_kn, .int m_by, .int m_kd, .int m_tg, .int m_ju])), (b_row, .inl (tc 0, 2400, .inl rowT)), (b_part, .inl (tc 0, 4, .inl (upd m_partL (((rowT ((32 * x0) + k_41).toNatClampNeg) / 100) - 1).toNatClampNeg ((m_partL (((rowT ((32 * x0) + k_41).toNatClampNeg) / 100) - 1).toNatClampNeg) + (((x1 >>> (k_41 &&& 31)) &&& 1) <<< (((rowT ((32 * x0) + k_41).toNatClampNeg) - (rowT ((32 * x0) + k_41).toNatClampNeg) / 100 * 100) &&& 31))))))] H := hP
              have hD : va_D A [(b_x, .inr (9, [.ref b_row, .ref b_part, .ref b_mem, .ref b_mrk, .ref b_sf, .ref b_ss, .ref b_sr, .int m_on, .ref b_h, .int m_hc, .ref b_r, .int m_pc, .ref b_in, .int m_giv, .int m_tak, .ref b_out, .int m_put, .int m_st, .int m_cu, .int m_va, .int m_sp, .int m_un, .ref b_k, .int m_kc, .int m_kn, .int m_by, .int m_kd, .int m_tg, .int m_ju])), (b_row, .inl (tc 0, 2400, .inl rowT)), (b_part, .inl (tc 0, 4, .inl (upd m_partL (((rowT ((32 * x0) + k_41).toNatClampNeg) / 100) - 1).toNatClampNeg ((m_partL (((rowT ((32 * x0) + k_41).toNatClampNeg) / 100) - 1).toNatClampNeg) + (((x1 >>> (k_41 &&& 31)) &&& 1) <<< (((rowT ((32 * x0) + k_41).toNatClampNeg) - (rowT ((32 * x0) + k_41).toNatClampNeg) / 100 * 100) &&& 31))))))] := hD
              refine lv_iload hx hb d_M_take_121 (lv_at hl 1 rfl) ?_
              refine lv_sipush (v := 500) hx hb d_M_take_123 (by decide) ?_
              refine lv_icmp_lt (tgt := 152) hx hb d_M_take_126 (by decide) (fun c_126 => ?_) (fun c_126 => ?_)
              · skip
                refine lv_iinc (v := (k_41 + 1)) (lv' := [(3, .int (k_41 + 1)), (5, .int ((x1 >>> (k_41 &&& 31)) &&& 1)), (4, .int (rowT ((32 * x0) + k_41).toNatClampNeg)), (0, .ref b_x), (1, .int x0), (2, .int x1)]) hx hb d_M_take_152 hl (k := 2) rfl rfl (by decide) rfl (fun ls hl => ?_)
                refine lv_goto (tgt := 41) hx hb d_M_take_155 (by decide) ?_
                exact ih_41 (k_41 + 1) (upd m_partL (((rowT ((32 * x0) + k_41).toNatClampNeg) / 100) - 1).toNatClampNeg ((m_partL (((rowT ((32 * x0) + k_41).toNatClampNeg) / 100) - 1).toNatClampNeg) + (((x1 >>> (k_41 &&& 31)) &&& 1) <<< (((rowT ((32 * x0) + k_41).toNatClampNeg) - (rowT ((32 * x0) + k_41).toNatClampNeg) / 100 * 100) &&& 31)))) _ _ ls (st_nn c_46 hq) (ms_step c_46 hm_41) (by rw [← hF_41, mF_StepMachineModel_take_L41, if_neg c_46, if_pos c_72, if_neg c_87, if_neg c_95, if_pos c_126]) hP hD hS (lv_sub hl [0, 3, 4, 5] rfl)
              · skip
                refine lv_aload_n hx hb d_M_take_129 rfl (lv_at hl 3 rfl) ?_
                refine va_get (D := D) (ci := 9) (v := .ref b_part) (C := "StepMachineModel") (T := TX9) (N := 29) hx hb hts inU_9 hown hK hP 0 rfl rfl 1 (by decide) (hts _ a_634) (fun _ h9 => h9) rfl d_M_take_130 ?_
                refine lv_iload hx hb d_M_take_133 (lv_at hl 1 rfl) ?_
                refine lv_bipush (v := 100) hx hb d_M_take_135 (by decide) ?_
                refine lv_idiv hx hb d_M_take_137 (by decide) ?_
                refine lv_iconst (v := 5) hx hb d_M_take_138 (by decide) ?_
                refine lv_isub hx hb d_M_take_139 ?_
                refine lv_dup2_11 hx hb d_M_take_140 rfl rfl ?_
                refine va_iald hx hb hK hP 2 0 rfl rfl (p5_take c_126) d_M_take_141 ?_
                refine lv_iload hx hb d_M_take_142 (lv_at hl 0 rfl) ?_
                refine lv_iload hx hb d_M_take_144 (lv_at hl 1 rfl) ?_
                refine lv_bipush (v := 100) hx hb d_M_take_146 (by decide) ?_
                refine lv_irem hx hb d_M_take_148 (by decide) ?_
                refine lv_ishl hx hb d_M_take_149 ?_
                refine lv_iadd hx hb d_M_take_150 ?_
                refine va_iast hx hb hK hP hD hS 2 0 rfl rfl (p5_take c_126) d_M_take_151 (fun H locs hP hD hS => ?_)
                have hP : va_P D vwCl [(b_x, .inr (9, [.ref b_row, .ref b_part, .ref b_mem, .ref b_mrk, .ref b_sf, .ref b_ss, .ref b_sr, .int m_on, .ref b_h, .int m_hc, .ref b_r, .int m_pc, .ref b_in, .int m_giv, .int m_tak, .ref b_out, .int m_put, .int m_st, .int m_cu, .int m_va, .int m_sp, .int m_un, .ref b_k, .int m_kc, .int m_kn, .int m_by, .int m_kd, .int m_tg, .int m_ju])), (b_row, .inl (tc 0, 2400, .inl rowT)), (b_part, .inl (tc 0, 4, .inl (upd (upd m_partL (((rowT ((32 * x0) + k_41).toNatClampNeg) / 100) - 1).toNatClampNeg ((m_partL (((rowT ((32 * x0) + k_41).toNatClampNeg) / 100) - 1).toNatClampNeg) + (((x1 >>> (k_41 &&& 31)) &&& 1) <<< (((rowT ((32 * x0) + k_41).toNatClampNeg) - (rowT ((32 * x0) + k_41).toNatClampNeg) / 100 * 100) &&& 31)))) (((rowT ((32 * x0) + k_41).toNatClampNeg) / 100) - 5).toNatClampNeg (((upd m_partL (((rowT ((32 * x0) + k_41).toNatClampNeg) / 100) - 1).toNatClampNeg ((m_partL (((rowT ((32 * x0) + k_41).toNatClampNeg) / 100) - 1).toNatClampNeg) + (((x1 >>> (k_41 &&& 31)) &&& 1) <<< (((rowT ((32 * x0) + k_41).toNatClampNeg) - (rowT ((32 * x0) + k_41).toNatClampNeg) / 100 * 100) &&& 31)))) (((rowT ((32 * x0) + k_41).toNatClampNeg) / 100) - 5).toNatClampNeg) + (((x1 >>> (k_41 &&& 31)) &&& 1) <<< (((rowT ((32 * x0) + k_41).toNatClampNeg) - (rowT ((32 * x0) + k_41).toNatClampNeg) / 100 * 100) &&& 31))))))] H := hP
                have hD : va_D A [(b_x, .inr (9, [.ref b_row, .ref b_part, .ref b_mem, .ref b_mrk, .ref b_sf, .ref b_ss, .ref b_sr, .int m_on, .ref b_h, .int m_hc, .ref b_r, .int m_pc, .ref b_in, .int m_giv, .int m_tak, .ref b_out, .int m_put, .int m_st, .int m_cu, .int m_va, .int m_sp, .int m_un, .ref b_k, .int m_kc, .int m_kn, .int m_by, .int m_kd, .int m_tg, .int m_ju])), (b_row, .inl (tc 0, 2400, .inl rowT)), (b_part, .inl (tc 0, 4, .inl (upd (upd m_partL (((rowT ((32 * x0) + k_41).toNatClampNeg) / 100) - 1).toNatClampNeg ((m_partL (((rowT ((32 * x0) + k_41).toNatClampNeg) / 100) - 1).toNatClampNeg) + (((x1 >>> (k_41 &&& 31)) &&& 1) <<< (((rowT ((32 * x0) + k_41).toNatClampNeg) - (rowT ((32 * x0) + k_41).toNatClampNeg) / 100 * 100) &&& 31)))) (((rowT ((32 * x0) + k_41).toNatClampNeg) / 100) - 5).toNatClampNeg (((upd m_partL (((rowT ((32 * x0) + k_41).toNatClampNeg) / 100) - 1).toNatClampNeg ((m_partL (((rowT ((32 * x0) + k_41).toNatClampNeg) / 100) - 1).toNatClampNeg) + (((x1 >>> (k_41 &&& 31)) &&& 1) <<< (((rowT ((32 * x0) + k_41).toNatClampNeg) - (rowT ((32 * x0) + k_41).toNatClampNeg) / 100 * 100) &&& 31)))) (((rowT ((32 * x0) + k_41).toNatClampNeg) / 100) - 5).toNatClampNeg) + (((x1 >>> (k_41 &&& 31)) &&& 1) <<< (((rowT ((32 * x0) + k_41).toNatClampNeg) - (rowT ((32 * x0) + k_41).toNatClampNeg) / 100 * 100) &&& 31))))))] := hD
                refine lv_iinc (v := (k_41 + 1)) (lv' := [(3, .int (k_41 + 1)), (5, .int ((x1 >>> (k_41 &&& 31)) &&& 1)), (4, .int (rowT ((32 * x0) + k_41).toNatClampNeg)), (0, .ref b_x), (1, .int x0), (2, .int x1)]) hx hb d_M_take_152 hl (k := 2) rfl rfl (by decide) rfl (fun ls hl => ?_)
                refine lv_goto (tgt := 41) hx hb d_M_take_155 (by decide) ?_
                exact ih_41 (k_41 + 1) (upd (upd m_partL (((rowT ((32 * x0) + k_41).toNatClampNeg) / 100) - 1).toNatClampNeg ((m_partL (((rowT ((32 * x0) + k_41).toNatClampNeg) / 100) - 1).toNatClampNeg) + (((x1 >>> (k_41 &&& 31)) &&& 1) <<< (((rowT ((32 * x0) + k_41).toNatClampNeg) - (rowT ((32 * x0) + k_41).toNatClampNeg) / 100 * 100) &&& 31)))) (((rowT ((32 * x0) + k_41).toNatClampNeg) / 100) - 5).toNatClampNeg (((upd m_partL (((rowT ((32 * x0) + k_41).toNatClampNeg) / 100) - 1).toNatClampNeg ((m_partL (((rowT ((32 * x0) + k_41).toNatClampNeg) / 100) - 1).toNatClampNeg) + (((x1 >>> (k_41 &&& 31)) &&& 1) <<< (((rowT ((32 * x0) + k_41).toNatClampNeg) - (rowT ((32 * x0) + k_41).toNatClampNeg) / 100 * 100) &&& 31)))) (((rowT ((32 * x0) + k_41).toNatClampNeg) / 100) - 5).toNatClampNeg) + (((x1 >>> (k_41 &&& 31)) &&& 1) <<< (((rowT ((32 * x0) + k_41).toNatClampNeg) - (rowT ((32 * x0) + k_41).toNatClampNeg) / 100 * 100) &&& 31)))) _ _ ls (st_nn c_46 hq) (ms_step c_46 hm_41) (by rw [← hF_41, mF_StepMachineModel_take_L41, if_neg c_46, if_pos c_72, if_neg c_87, if_neg c_95, if_neg c_126]) hP hD hS (lv_sub hl [0, 3, 4, 5] rfl)
        · skip
          refine lv_iload hx hb d_M_take_75 (lv_at hl 1 rfl) ?_
          refine lv_iload hx hb d_M_take_77 (lv_at hl 0 rfl) ?_
          refine lv_icmp_eq (tgt := 84) hx hb d_M_take_79 (by decide) (fun c_79 => ?_) (fun c_79 => ?_)
          · skip
            refine lv_iload hx hb d_M_take_84 (lv_at hl 1 rfl) ?_
            refine lv_iconst (v := 1) hx hb d_M_take_86 (by decide) ?_
            refine lv_icmp_le (tgt := 121) hx hb d_M_take_87 (by decide) (fun c_87 => ?_) (fun c_87 => ?_)
            · skip
              refine lv_iload hx hb d_M_take_121 (lv_at hl 1 rfl) ?_
              refine lv_sipush (v := 500) hx hb d_M_take_123 (by decide) ?_
              refine lv_icmp_lt (tgt := 152) hx hb d_M_take_126 (by decide) (fun c_126 => ?_) (fun c_126 => ?_)
              · skip
                refine lv_iinc (v := (k_41 + 1)) (lv' := [(3, .int (k_41 + 1)), (5, .int ((x1 >>> (k_41 &&& 31)) &&& 1)), (4, .int (rowT ((32 * x0) + k_41).toNatClampNeg)), (0, .ref b_x), (1, .int x0), (2, .int x1)]) hx hb d_M_take_152 hl (k := 2) rfl rfl (by decide) rfl (fun ls hl => ?_)
                refine lv_goto (tgt := 41) hx hb d_M_take_155 (by decide) ?_
                exact ih_41 (k_41 + 1) m_partL _ _ ls (st_nn c_46 hq) (ms_step c_46 hm_41) (by rw [← hF_41, mF_StepMachineModel_take_L41, if_neg c_46, if_neg c_72, if_pos c_79, if_pos c_87, if_pos c_126]) hP hD hS (lv_sub hl [0, 3, 4, 5] rfl)
              · skip
                refine lv_aload_n hx hb d_M_take_129 rfl (lv_at hl 3 rfl) ?_
                refine va_get (D := D) (ci := 9) (v := .ref b_part) (C := "StepMachineModel") (T := TX9) (N := 29) hx hb hts inU_9 hown hK hP 0 rfl rfl 1 (by decide) (hts _ a_634) (fun _ h9 => h9) rfl d_M_take_130 ?_
                refine lv_iload hx hb d_M_take_133 (lv_at hl 1 rfl) ?_
                refine lv_bipush (v := 100) hx hb d_M_take_135 (by decide) ?_
                refine lv_idiv hx hb d_M_take_137 (by decide) ?_
                refine lv_iconst (v := 5) hx hb d_M_take_138 (by decide) ?_
                refine lv_isub hx hb d_M_take_139 ?_
                refine lv_dup2_11 hx hb d_M_take_140 rfl rfl ?_
                refine va_iald hx hb hK hP 2 0 rfl rfl (p5_take c_126) d_M_take_141 ?_
                refine lv_iload hx hb d_M_take_142 (lv_at hl 0 rfl) ?_
                refine lv_iload hx hb d_M_take_144 (lv_at hl 1 rfl) ?_
                refine lv_bipush (v := 100) hx hb d_M_take_146 (by decide) ?_
                refine lv_irem hx hb d_M_take_148 (by decide) ?_
                refine lv_ishl hx hb d_M_take_149 ?_
                refine lv_iadd hx hb d_M_take_150 ?_
                refine va_iast hx hb hK hP hD hS 2 0 rfl rfl (p5_take c_126) d_M_take_151 (fun H locs hP hD hS => ?_)
                have hP : va_P D vwCl [(b_x, .inr (9, [.ref b_row, .ref b_part, .ref b_mem, .ref b_mrk, .ref b_sf, .ref b_ss, .ref b_sr, .int m_on, .ref b_h, .int m_hc, .ref b_r, .int m_pc, .ref b_in, .int m_giv, .int m_tak, .ref b_out, .int m_put, .int m_st, .int m_cu, .int m_va, .int m_sp, .int m_un, .ref b_k, .int m_kc, .int m_kn, .int m_by, .int m_kd, .int m_tg, .int m_ju])), (b_row, .inl (tc 0, 2400, .inl rowT)), (b_part, .inl (tc 0, 4, .inl (upd m_partL (((rowT ((32 * x0) + k_41).toNatClampNeg) / 100) - 5).toNatClampNeg ((m_partL (((rowT ((32 * x0) + k_41).toNatClampNeg) / 100) - 5).toNatClampNeg) + (((x1 >>> (k_41 &&& 31)) &&& 1) <<< (((rowT ((32 * x0) + k_41).toNatClampNeg) - (rowT ((32 * x0) + k_41).toNatClampNeg) / 100 * 100) &&& 31))))))] H := hP
                have hD : va_D A [(b_x, .inr (9, [.ref b_row, .ref b_part, .ref b_mem, .ref b_mrk, .ref b_sf, .ref b_ss, .ref b_sr, .int m_on, .ref b_h, .int m_hc, .ref b_r, .int m_pc, .ref b_in, .int m_giv, .int m_tak, .ref b_out, .int m_put, .int m_st, .int m_cu, .int m_va, .int m_sp, .int m_un, .ref b_k, .int m_kc, .int m_kn, .int m_by, .int m_kd, .int m_tg, .int m_ju])), (b_row, .inl (tc 0, 2400, .inl rowT)), (b_part, .inl (tc 0, 4, .inl (upd m_partL (((rowT ((32 * x0) + k_41).toNatClampNeg) / 100) - 5).toNatClampNeg ((m_partL (((rowT ((32 * x0) + k_41).toNatClampNeg) / 100) - 5).toNatClampNeg) + (((x1 >>> (k_41 &&& 31)) &&& 1) <<< (((rowT ((32 * x0) + k_41).toNatClampNeg) - (rowT ((32 * x0) + k_41).toNatClampNeg) / 100 * 100) &&& 31))))))] := hD
                refine lv_iinc (v := (k_41 + 1)) (lv' := [(3, .int (k_41 + 1)), (5, .int ((x1 >>> (k_41 &&& 31)) &&& 1)), (4, .int (rowT ((32 * x0) + k_41).toNatClampNeg)), (0, .ref b_x), (1, .int x0), (2, .int x1)]) hx hb d_M_take_152 hl (k := 2) rfl rfl (by decide) rfl (fun ls hl => ?_)
                refine lv_goto (tgt := 41) hx hb d_M_take_155 (by decide) ?_
                exact ih_41 (k_41 + 1) (upd m_partL (((rowT ((32 * x0) + k_41).toNatClampNeg) / 100) - 5).toNatClampNeg ((m_partL (((rowT ((32 * x0) + k_41).toNatClampNeg) / 100) - 5).toNatClampNeg) + (((x1 >>> (k_41 &&& 31)) &&& 1) <<< (((rowT ((32 * x0) + k_41).toNatClampNeg) - (rowT ((32 * x0) + k_41).toNatClampNeg) / 100 * 100) &&& 31)))) _ _ ls (st_nn c_46 hq) (ms_step c_46 hm_41) (by rw [← hF_41, mF_StepMachineModel_take_L41, if_neg c_46, if_neg c_72, if_pos c_79, if_pos c_87, if_neg c_126]) hP hD hS (lv_sub hl [0, 3, 4, 5] rfl)
            · skip
              refine lv_iload hx hb d_M_take_90 (lv_at hl 1 rfl) ?_
              refine lv_sipush (v := 500) hx hb d_M_take_92 (by decide) ?_
              refine lv_icmp_ge (tgt := 121) hx hb d_M_take_95 (by decide) (fun c_95 => ?_) (fun c_95 => ?_)
              · skip
                refine lv_iload hx hb d_M_take_121 (lv_at hl 1 rfl) ?_
                refine lv_sipush (v := 500) hx hb d_M_take_123 (by decide) ?_
                refine lv_icmp_lt (tgt := 152) hx hb d_M_take_126 (by decide) (fun c_126 => ?_) (fun c_126 => ?_)
                · skip
                  refine lv_iinc (v := (k_41 + 1)) (lv' := [(3, .int (k_41 + 1)), (5, .int ((x1 >>> (k_41 &&& 31)) &&& 1)), (4, .int (rowT ((32 * x0) + k_41).toNatClampNeg)), (0, .ref b_x), (1, .int x0), (2, .int x1)]) hx hb d_M_take_152 hl (k := 2) rfl rfl (by decide) rfl (fun ls hl => ?_)
                  refine lv_goto (tgt := 41) hx hb d_M_take_155 (by decide) ?_
                  exact ih_41 (k_41 + 1) m_partL _ _ ls (st_nn c_46 hq) (ms_step c_46 hm_41) (by rw [← hF_41, mF_StepMachineModel_take_L41, if_neg c_46, if_neg c_72, if_pos c_79, if_neg c_87, if_pos c_95, if_pos c_126]) hP hD hS (lv_sub hl [0, 3, 4, 5] rfl)
                · skip
                  refine lv_aload_n hx hb d_M_take_129 rfl (lv_at hl 3 rfl) ?_
                  refine va_get (D := D) (ci := 9) (v := .ref b_part) (C := "StepMachineModel") (T := TX9) (N := 29) hx hb hts inU_9 hown hK hP 0 rfl rfl 1 (by decide) (hts _ a_634) (fun _ h9 => h9) rfl d_M_take_130 ?_
                  refine lv_iload hx hb d_M_take_133 (lv_at hl 1 rfl) ?_
                  refine lv_bipush (v := 100) hx hb d_M_take_135 (by decide) ?_
                  refine lv_idiv hx hb d_M_take_137 (by decide) ?_
                  refine lv_iconst (v := 5) hx hb d_M_take_138 (by decide) ?_
                  refine lv_isub hx hb d_M_take_139 ?_
                  refine lv_dup2_11 hx hb d_M_take_140 rfl rfl ?_
                  refine va_iald hx hb hK hP 2 0 rfl rfl (p5_take c_126) d_M_take_141 ?_
                  refine lv_iload hx hb d_M_take_142 (lv_at hl 0 rfl) ?_
                  refine lv_iload hx hb d_M_take_144 (lv_at hl 1 rfl) ?_
                  refine lv_bipush (v := 100) hx hb d_M_take_146 (by decide) ?_
                  refine lv_irem hx hb d_M_take_148 (by decide) ?_
                  refine lv_ishl hx hb d_M_take_149 ?_
                  refine lv_iadd hx hb d_M_take_150 ?_
                  refine va_iast hx hb hK hP hD hS 2 0 rfl rfl (p5_take c_126) d_M_take_151 (fun H locs hP hD hS => ?_)
                  have hP : va_P D vwCl [(b_x, .inr (9, [.ref b_row, .ref b_part, .ref b_mem, .ref b_mrk, .ref b_sf, .ref b_ss, .ref b_sr, .int m_on, .ref b_h, .int m_hc, .ref b_r, .int m_pc, .ref b_in, .int m_giv, .int m_tak, .ref b_out, .int m_put, .int m_st, .int m_cu, .int m_va, .int m_sp, .int m_un, .ref b_k, .int m_kc, .int m_kn, .int m_by, .int m_kd, .int m_tg, .int m_ju])), (b_row, .inl (tc 0, 2400, .inl rowT)), (b_part, .inl (tc 0, 4, .inl (upd m_partL (((rowT ((32 * x0) + k_41).toNatClampNeg) / 100) - 5).toNatClampNeg ((m_partL (((rowT ((32 * x0) + k_41).toNatClampNeg) / 100) - 5).toNatClampNeg) + (((x1 >>> (k_41 &&& 31)) &&& 1) <<< (((rowT ((32 * x0) + k_41).toNatClampNeg) - (rowT ((32 * x0) + k_41).toNatClampNeg) / 100 * 100) &&& 31))))))] H := hP
                  have hD : va_D A [(b_x, .inr (9, [.ref b_row, .ref b_part, .ref b_mem, .ref b_mrk, .ref b_sf, .ref b_ss, .ref b_sr, .int m_on, .ref b_h, .int m_hc, .ref b_r, .int m_pc, .ref b_in, .int m_giv, .int m_tak, .ref b_out, .int m_put, .int m_st, .int m_cu, .int m_va, .int m_sp, .int m_un, .ref b_k, .int m_kc, .int m_kn, .int m_by, .int m_kd, .int m_tg, .int m_ju])), (b_row, .inl (tc 0, 2400, .inl rowT)), (b_part, .inl (tc 0, 4, .inl (upd m_partL (((rowT ((32 * x0) + k_41).toNatClampNeg) / 100) - 5).toNatClampNeg ((m_partL (((rowT ((32 * x0) + k_41).toNatClampNeg) / 100) - 5).toNatClampNeg) + (((x1 >>> (k_41 &&& 31)) &&& 1) <<< (((rowT ((32 * x0) + k_41).toNatClampNeg) - (rowT ((32 * x0) + k_41).toNatClampNeg) / 100 * 100) &&& 31))))))] := hD
                  refine lv_iinc (v := (k_41 + 1)) (lv' := [(3, .int (k_41 + 1)), (5, .int ((x1 >>> (k_41 &&& 31)) &&& 1)), (4, .int (rowT ((32 * x0) + k_41).toNatClampNeg)), (0, .ref b_x), (1, .int x0), (2, .int x1)]) hx hb d_M_take_152 hl (k := 2) rfl rfl (by decide) rfl (fun ls hl => ?_)
                  refine lv_goto (tgt := 41) hx hb d_M_take_155 (by decide) ?_
                  exact ih_41 (k_41 + 1) (upd m_partL (((rowT ((32 * x0) + k_41).toNatClampNeg) / 100) - 5).toNatClampNeg ((m_partL (((rowT ((32 * x0) + k_41).toNatClampNeg) / 100) - 5).toNatClampNeg) + (((x1 >>> (k_41 &&& 31)) &&& 1) <<< (((rowT ((32 * x0) + k_41).toNatClampNeg) - (rowT ((32 * x0) + k_41).toNatClampNeg) / 100 * 100) &&& 31)))) _ _ ls (st_nn c_46 hq) (ms_step c_46 hm_41) (by rw [← hF_41, mF_StepMachineModel_take_L41, if_neg c_46, if_neg c_72, if_pos c_79, if_neg c_87, if_pos c_95, if_neg c_126]) hP hD hS (lv_sub hl [0, 3, 4, 5] rfl)
              · skip
                refine lv_aload_n hx hb d_M_take_98 rfl (lv_at hl 3 rfl) ?_
                refine va_get (D := D) (ci := 9) (v := .ref b_part) (C := "StepMachineModel") (T := TX9) (N := 29) hx hb hts inU_9 hown hK hP 0 rfl rfl 1 (by decide) (hts _ a_634) (fun _ h9 => h9) rfl d_M_take_99 ?_
                refine lv_iload hx hb d_M_take_102 (lv_at hl 1 rfl) ?_
                refine lv_bipush (v := 100) hx hb d_M_take_104 (by decide) ?_
                refine lv_idiv hx hb d_M_take_106 (by decide) ?_
                refine lv_iconst (v := 1) hx hb d_M_take_107 (by decide) ?_
                refine lv_isub hx hb d_M_take_108 ?_
                refine lv_dup2_11 hx hb d_M_take_109 rfl rfl ?_
                refine va_iald hx hb hK hP 2 0 rfl rfl (p1_take c_87 c_95) d_M_take_110 ?_
                refine lv_iload hx hb d_M_take_111 (lv_at hl 0 rfl) ?_
                refine lv_iload hx hb d_M_take_113 (lv_at hl 1 rfl) ?_
                refine lv_bipush (v := 100) hx hb d_M_take_115 (by decide) ?_
                refine lv_irem hx hb d_M_take_117 (by decide) ?_
                refine lv_ishl hx hb d_M_take_118 ?_
                refine lv_iadd hx hb d_M_take_119 ?_
                refine va_iast hx hb hK hP hD hS 2 0 rfl rfl (p1_take c_87 c_95) d_M_take_120 (fun H locs hP hD hS => ?_)
                have hP : va_P D vwCl [(b_x, .inr (9, [.ref b_row, .ref b_part, .ref b_mem, .ref b_mrk, .ref b_sf, .ref b_ss, .ref b_sr, .int m_on, .ref b_h, .int m_hc, .ref b_r, .int m_pc, .ref b_in, .int m_giv, .int m_tak, .ref b_out, .int m_put, .int m_st, .int m_cu, .int m_va, .int m_sp, .int m_un, .ref b_k, .int m_kc, .int m_kn, .int m_by, .int m_kd, .int m_tg, .int m_ju])), (b_row, .inl (tc 0, 2400, .inl rowT)), (b_part, .inl (tc 0, 4, .inl (upd m_partL (((rowT ((32 * x0) + k_41).toNatClampNeg) / 100) - 1).toNatClampNeg ((m_partL (((rowT ((32 * x0) + k_41).toNatClampNeg) / 100) - 1).toNatClampNeg) + (((x1 >>> (k_41 &&& 31)) &&& 1) <<< (((rowT ((32 * x0) + k_41).toNatClampNeg) - (rowT ((32 * x0) + k_41).toNatClampNeg) / 100 * 100) &&& 31))))))] H := hP
                have hD : va_D A [(b_x, .inr (9, [.ref b_row, .ref b_part, .ref b_mem, .ref b_mrk, .ref b_sf, .ref b_ss, .ref b_sr, .int m_on, .ref b_h, .int m_hc, .ref b_r, .int m_pc, .ref b_in, .int m_giv, .int m_tak, .ref b_out, .int m_put, .int m_st, .int m_cu, .int m_va, .int m_sp, .int m_un, .ref b_k, .int m_kc, .int m_kn, .int m_by, .int m_kd, .int m_tg, .int m_ju])), (b_row, .inl (tc 0, 2400, .inl rowT)), (b_part, .inl (tc 0, 4, .inl (upd m_partL (((rowT ((32 * x0) + k_41).toNatClampNeg) / 100) - 1).toNatClampNeg ((m_partL (((rowT ((32 * x0) + k_41).toNatClampNeg) / 100) - 1).toNatClampNeg) + (((x1 >>> (k_41 &&& 31)) &&& 1) <<< (((rowT ((32 * x0) + k_41).toNatClampNeg) - (rowT ((32 * x0) + k_41).toNatClampNeg) / 100 * 100) &&& 31))))))] := hD
                refine lv_iload hx hb d_M_take_121 (lv_at hl 1 rfl) ?_
                refine lv_sipush (v := 500) hx hb d_M_take_123 (by decide) ?_
                refine lv_icmp_lt (tgt := 152) hx hb d_M_take_126 (by decide) (fun c_126 => ?_) (fun c_126 => ?_)
                · skip
                  refine lv_iinc (v := (k_41 + 1)) (lv' := [(3, .int (k_41 + 1)), (5, .int ((x1 >>> (k_41 &&& 31)) &&& 1)), (4, .int (rowT ((32 * x0) + k_41).toNatClampNeg)), (0, .ref b_x), (1, .int x0), (2, .int x1)]) hx hb d_M_take_152 hl (k := 2) rfl rfl (by decide) rfl (fun ls hl => ?_)
                  refine lv_goto (tgt := 41) hx hb d_M_take_155 (by decide) ?_
                  exact ih_41 (k_41 + 1) (upd m_partL (((rowT ((32 * x0) + k_41).toNatClampNeg) / 100) - 1).toNatClampNeg ((m_partL (((rowT ((32 * x0) + k_41).toNatClampNeg) / 100) - 1).toNatClampNeg) + (((x1 >>> (k_41 &&& 31)) &&& 1) <<< (((rowT ((32 * x0) + k_41).toNatClampNeg) - (rowT ((32 * x0) + k_41).toNatClampNeg) / 100 * 100) &&& 31)))) _ _ ls (st_nn c_46 hq) (ms_step c_46 hm_41) (by rw [← hF_41, mF_StepMachineModel_take_L41, if_neg c_46, if_neg c_72, if_pos c_79, if_neg c_87, if_neg c_95, if_pos c_126]) hP hD hS (lv_sub hl [0, 3, 4, 5] rfl)
                · skip
                  refine lv_aload_n hx hb d_M_take_129 rfl (lv_at hl 3 rfl) ?_
                  refine va_get (D := D) (ci := 9) (v := .ref b_part) (C := "StepMachineModel") (T := TX9) (N := 29) hx hb hts inU_9 hown hK hP 0 rfl rfl 1 (by decide) (hts _ a_634) (fun _ h9 => h9) rfl d_M_take_130 ?_
                  refine lv_iload hx hb d_M_take_133 (lv_at hl 1 rfl) ?_
                  refine lv_bipush (v := 100) hx hb d_M_take_135 (by decide) ?_
                  refine lv_idiv hx hb d_M_take_137 (by decide) ?_
                  refine lv_iconst (v := 5) hx hb d_M_take_138 (by decide) ?_
                  refine lv_isub hx hb d_M_take_139 ?_
                  refine lv_dup2_11 hx hb d_M_take_140 rfl rfl ?_
                  refine va_iald hx hb hK hP 2 0 rfl rfl (p5_take c_126) d_M_take_141 ?_
                  refine lv_iload hx hb d_M_take_142 (lv_at hl 0 rfl) ?_
                  refine lv_iload hx hb d_M_take_144 (lv_at hl 1 rfl) ?_
                  refine lv_bipush (v := 100) hx hb d_M_take_146 (by decide) ?_
                  refine lv_irem hx hb d_M_take_148 (by decide) ?_
                  refine lv_ishl hx hb d_M_take_149 ?_
                  refine lv_iadd hx hb d_M_take_150 ?_
                  refine va_iast hx hb hK hP hD hS 2 0 rfl rfl (p5_take c_126) d_M_take_151 (fun H locs hP hD hS => ?_)
                  have hP : va_P D vwCl [(b_x, .inr (9, [.ref b_row, .ref b_part, .ref b_mem, .ref b_mrk, .ref b_sf, .ref b_ss, .ref b_sr, .int m_on, .ref b_h, .int m_hc, .ref b_r, .int m_pc, .ref b_in, .int m_giv, .int m_tak, .ref b_out, .int m_put, .int m_st, .int m_cu, .int m_va, .int m_sp, .int m_un, .ref b_k, .int m_kc, .int m_kn, .int m_by, .int m_kd, .int m_tg, .int m_ju])), (b_row, .inl (tc 0, 2400, .inl rowT)), (b_part, .inl (tc 0, 4, .inl (upd (upd m_partL (((rowT ((32 * x0) + k_41).toNatClampNeg) / 100) - 1).toNatClampNeg ((m_partL (((rowT ((32 * x0) + k_41).toNatClampNeg) / 100) - 1).toNatClampNeg) + (((x1 >>> (k_41 &&& 31)) &&& 1) <<< (((rowT ((32 * x0) + k_41).toNatClampNeg) - (rowT ((32 * x0) + k_41).toNatClampNeg) / 100 * 100) &&& 31)))) (((rowT ((32 * x0) + k_41).toNatClampNeg) / 100) - 5).toNatClampNeg (((upd m_partL (((rowT ((32 * x0) + k_41).toNatClampNeg) / 100) - 1).toNatClampNeg ((m_partL (((rowT ((32 * x0) + k_41).toNatClampNeg) / 100) - 1).toNatClampNeg) + (((x1 >>> (k_41 &&& 31)) &&& 1) <<< (((rowT ((32 * x0) + k_41).toNatClampNeg) - (rowT ((32 * x0) + k_41).toNatClampNeg) / 100 * 100) &&& 31)))) (((rowT ((32 * x0) + k_41).toNatClampNeg) / 100) - 5).toNatClampNeg) + (((x1 >>> (k_41 &&& 31)) &&& 1) <<< (((rowT ((32 * x0) + k_41).toNatClampNeg) - (rowT ((32 * x0) + k_41).toNatClampNeg) / 100 * 100) &&& 31))))))] H := hP
                  have hD : va_D A [(b_x, .inr (9, [.ref b_row, .ref b_part, .ref b_mem, .ref b_mrk, .ref b_sf, .ref b_ss, .ref b_sr, .int m_on, .ref b_h, .int m_hc, .ref b_r, .int m_pc, .ref b_in, .int m_giv, .int m_tak, .ref b_out, .int m_put, .int m_st, .int m_cu, .int m_va, .int m_sp, .int m_un, .ref b_k, .int m_kc, .int m_kn, .int m_by, .int m_kd, .int m_tg, .int m_ju])), (b_row, .inl (tc 0, 2400, .inl rowT)), (b_part, .inl (tc 0, 4, .inl (upd (upd m_partL (((rowT ((32 * x0) + k_41).toNatClampNeg) / 100) - 1).toNatClampNeg ((m_partL (((rowT ((32 * x0) + k_41).toNatClampNeg) / 100) - 1).toNatClampNeg) + (((x1 >>> (k_41 &&& 31)) &&& 1) <<< (((rowT ((32 * x0) + k_41).toNatClampNeg) - (rowT ((32 * x0) + k_41).toNatClampNeg) / 100 * 100) &&& 31)))) (((rowT ((32 * x0) + k_41).toNatClampNeg) / 100) - 5).toNatClampNeg (((upd m_partL (((rowT ((32 * x0) + k_41).toNatClampNeg) / 100) - 1).toNatClampNeg ((m_partL (((rowT ((32 * x0) + k_41).toNatClampNeg) / 100) - 1).toNatClampNeg) + (((x1 >>> (k_41 &&& 31)) &&& 1) <<< (((rowT ((32 * x0) + k_41).toNatClampNeg) - (rowT ((32 * x0) + k_41).toNatClampNeg) / 100 * 100) &&& 31)))) (((rowT ((32 * x0) + k_41).toNatClampNeg) / 100) - 5).toNatClampNeg) + (((x1 >>> (k_41 &&& 31)) &&& 1) <<< (((rowT ((32 * x0) + k_41).toNatClampNeg) - (rowT ((32 * x0) + k_41).toNatClampNeg) / 100 * 100) &&& 31))))))] := hD
                  refine lv_iinc (v := (k_41 + 1)) (lv' := [(3, .int (k_41 + 1)), (5, .int ((x1 >>> (k_41 &&& 31)) &&& 1)), (4, .int (rowT ((32 * x0) + k_41).toNatClampNeg)), (0, .ref b_x), (1, .int x0), (2, .int x1)]) hx hb d_M_take_152 hl (k := 2) rfl rfl (by decide) rfl (fun ls hl => ?_)
                  refine lv_goto (tgt := 41) hx hb d_M_take_155 (by decide) ?_
                  exact ih_41 (k_41 + 1) (upd (upd m_partL (((rowT ((32 * x0) + k_41).toNatClampNeg) / 100) - 1).toNatClampNeg ((m_partL (((rowT ((32 * x0) + k_41).toNatClampNeg) / 100) - 1).toNatClampNeg) + (((x1 >>> (k_41 &&& 31)) &&& 1) <<< (((rowT ((32 * x0) + k_41).toNatClampNeg) - (rowT ((32 * x0) + k_41).toNatClampNeg) / 100 * 100) &&& 31)))) (((rowT ((32 * x0) + k_41).toNatClampNeg) / 100) - 5).toNatClampNeg (((upd m_partL (((rowT ((32 * x0) + k_41).toNatClampNeg) / 100) - 1).toNatClampNeg ((m_partL (((rowT ((32 * x0) + k_41).toNatClampNeg) / 100) - 1).toNatClampNeg) + (((x1 >>> (k_41 &&& 31)) &&& 1) <<< (((rowT ((32 * x0) + k_41).toNatClampNeg) - (rowT ((32 * x0) + k_41).toNatClampNeg) / 100 * 100) &&& 31)))) (((rowT ((32 * x0) + k_41).toNatClampNeg) / 100) - 5).toNatClampNeg) + (((x1 >>> (k_41 &&& 31)) &&& 1) <<< (((rowT ((32 * x0) + k_41).toNatClampNeg) - (rowT ((32 * x0) + k_41).toNatClampNeg) / 100 * 100) &&& 31)))) _ _ ls (st_nn c_46 hq) (ms_step c_46 hm_41) (by rw [← hF_41, mF_StepMachineModel_take_L41, if_neg c_46, if_neg c_72, if_pos c_79, if_neg c_87, if_neg c_95, if_neg c_126]) hP hD hS (lv_sub hl [0, 3, 4, 5] rfl)
          · skip
            refine lv_iconst (v := 0) hx hb d_M_take_82 (by decide) ?_
            exact W.zret (v := 0) hx hb hr rfl (fun t ht hW => ⟨⟨_, m_partL, rfl, by rw [← hF_41, mF_StepMachineModel_take_L41, if_neg c_46, if_neg c_72, if_neg c_79], by rw [ht]; exact hP, va_K.moved hW.alike hK, hD⟩, hS.F ht⟩) hS.2.2 d_M_take_83
  exact loop_41 (((mF_StepMachineModel_bitsOf x0).toInt - (0 : Int32).toInt).toNat + 1) (0 : Int32) q_2.2 _ _ ls (by decide) (Nat.lt_succ_self _) (by rw [mF_StepMachineModel_take, ← e_2, mF_StepMachineModel_take_1]) hP hD hS (lv_sub hl [0, 1, 2, 3] rfl)
def mF_StepMachineModel_find_1 (rec_ : Int32 → (Nat → Int32) → (Int32 × (Nat → Int32))) (k_32 : Int32) (q_42 : Int32 × (Nat → Int32)) : Int32 × (Nat → Int32) := (if q_42.1 = 0 then (rec_ (k_32 + 1) q_42.2) else (k_32, q_42.2))
def mF_StepMachineModel_find_L32 (x0 : Int32) : Nat → Int32 → (Nat → Int32) → Int32 × (Nat → Int32)
  | 0, k_32, m_partL => (0, m_partL)
  | n_ + 1, k_32, m_partL => (if 75 ≤ k_32 then ((-1), m_partL) else (mF_StepMachineModel_find_1 (mF_StepMachineModel_find_L32 x0 n_) k_32 (mF_StepMachineModel_take m_partL k_32 x0)))
def mF_StepMachineModel_find_2 (rec_ : Int32 → (Nat → Int32) → (Int32 × (Nat → Int32))) (k_32 : Int32) (q_42 : Int32 × (Nat → Int32)) : Int32 × (Nat → Int32) := (if q_42.1 = 0 then (rec_ (k_32 + 1) q_42.2) else (k_32, q_42.2))
def mF_StepMachineModel_find_L32b (x0 : Int32) : Nat → Int32 → (Nat → Int32) → Int32 × (Nat → Int32)
  | 0, k_32, m_partL => (0, m_partL)
  | n_ + 1, k_32, m_partL => (if 48 ≤ k_32 then ((-1), m_partL) else (mF_StepMachineModel_find_2 (mF_StepMachineModel_find_L32b x0 n_) k_32 (mF_StepMachineModel_take m_partL k_32 x0)))
def mF_StepMachineModel_find (m_part : Nat → Int32) (x0 : Int32) : Int32 × (Nat → Int32) := (if (mF_StepMachineModel_isLong x0) = 0 then (mF_StepMachineModel_find_L32 x0 (((75 : Int32).toInt - (48 : Int32).toInt).toNat + 1) (48 : Int32) m_part) else (mF_StepMachineModel_find_L32b x0 (((48 : Int32).toInt - (0 : Int32).toInt).toNat + 1) (0 : Int32) m_part))
set_option maxHeartbeats 4000000 in
set_option maxRecDepth 100000 in
theorem mc_StepMachineModel_find (l : Launch) (D : va_G) (tc : Nat → ClassId) (tb : Nat → Nat) (z0 : Nat) (sz : Nat) (b_x b_row b_part b_mem b_mrk b_sf b_ss b_sr b_h b_r b_in b_out b_k : Nat) (m_on : Int32) (m_hc : Int32) (m_pc : Int32) (m_giv : Int32) (m_tak : Int32) (m_put : Int32) (m_st : Int32) (m_cu : Int32) (m_va : Int32) (m_sp : Int32) (m_un : Int32) (m_kc : Int32) (m_kn : Int32) (m_by : Int32) (m_kd : Int32) (m_tg : Int32) (m_ju : Int32) (m_part : Nat → Int32) (x0 : Int32) : Met l y_M_find (wM y_M_find b_M_find 5 (some .int)) ({ frames := 5, cells := 0, slots := 0, locals := 113 }) (va_Pc [.ref b_x, .int x0] (Pw D tc tb z0 [(b_x, .inr (9, [.ref b_row, .ref b_part, .ref b_mem, .ref b_mrk, .ref b_sf, .ref b_ss, .ref b_sr, .int m_on, .ref b_h, .int m_hc, .ref b_r, .int m_pc, .ref b_in, .int m_giv, .int m_tak, .ref b_out, .int m_put, .int m_st, .int m_cu, .int m_va, .int m_sp, .int m_un, .ref b_k, .int m_kc, .int m_kn, .int m_by, .int m_kd, .int m_tg, .int m_ju])), (b_row, .inl (tc 0, 2400, .inl rowT)), (b_part, .inl (tc 0, 4, .inl m_part))] sz)) (va_Qi (fun (r : Int32) (u : (Nat → Int32)) => (r, u) = (mF_StepMachineModel_find m_part x0)) (Bw D tc (va_A [(b_x, .inr (9, [.ref b_row, .ref b_part, .ref b_mem, .ref b_mrk, .ref b_sf, .ref b_ss, .ref b_sr, .int m_on, .ref b_h, .int m_hc, .ref b_r, .int m_pc, .ref b_in, .int m_giv, .int m_tak, .ref b_out, .int m_put, .int m_st, .int m_cu, .int m_va, .int m_sp, .int m_un, .ref b_k, .int m_kc, .int m_kn, .int m_by, .int m_kd, .int m_tg, .int m_ju])), (b_row, .inl (tc 0, 2400, .inl rowT)), (b_part, .inl (tc 0, 4, .inl m_part))] sz) (fun u => [(b_x, .inr (9, [.ref b_row, .ref b_part, .ref b_mem, .ref b_mrk, .ref b_sf, .ref b_ss, .ref b_sr, .int m_on, .ref b_h, .int m_hc, .ref b_r, .int m_pc, .ref b_in, .int m_giv, .int m_tak, .ref b_out, .int m_put, .int m_st, .int m_cu, .int m_va, .int m_sp, .int m_un, .ref b_k, .int m_kc, .int m_kn, .int m_by, .int m_kd, .int m_tg, .int m_ju])), (b_row, .inl (tc 0, 2400, .inl rowT)), (b_part, .inl (tc 0, 4, .inl u))])) (va_A [(b_x, .inr (9, [.ref b_row, .ref b_part, .ref b_mem, .ref b_mrk, .ref b_sf, .ref b_ss, .ref b_sr, .int m_on, .ref b_h, .int m_hc, .ref b_r, .int m_pc, .ref b_in, .int m_giv, .int m_tak, .ref b_out, .int m_put, .int m_st, .int m_cu, .int m_va, .int m_sp, .int m_un, .ref b_k, .int m_kc, .int m_kn, .int m_by, .int m_kd, .int m_tg, .int m_ju])), (b_row, .inl (tc 0, 2400, .inl rowT)), (b_part, .inl (tc 0, 4, .inl m_part))] sz)) 0 0 (va_A [(b_x, .inr (9, [.ref b_row, .ref b_part, .ref b_mem, .ref b_mrk, .ref b_sf, .ref b_ss, .ref b_sr, .int m_on, .ref b_h, .int m_hc, .ref b_r, .int m_pc, .ref b_in, .int m_giv, .int m_tak, .ref b_out, .int m_put, .int m_st, .int m_cu, .int m_va, .int m_sp, .int m_un, .ref b_k, .int m_kc, .int m_kn, .int m_by, .int m_kd, .int m_tg, .int m_ju])), (b_row, .inl (tc 0, 2400, .inl rowT)), (b_part, .inl (tc 0, 4, .inl m_part))] sz) := by
  refine Met.ofW (cc := b_M_find) (maxL := 5) (ret := (some .int)) (by decide) rfl ?_
  intro p e s m args below meth c s₁ B hml hv
  obtain ⟨rfl, hsz, hP, hK, hB, hD0, hZ0⟩ := hv
  have hx := B.exec
  have hb := B.bytes
  have hr := B.returns
  have hts : ∀ w ∈ wALL, w.before _ s = true := fun w h => atoms_spec (ws := (wM y_M_find b_M_find 5 (some .int))) B.pre w (List.mem_cons_of_mem _ h)
  have hown : s.vm.findClass "StepMachineModel" = some m.cls := findClass_of_methodNamed B.named
  have hlocks := B.notSynchronized
  subst hsz
  have hD := hD0.self (sz := s.heap.size)
  generalize hAe : va_A [(b_x, .inr (9, [.ref b_row, .ref b_part, .ref b_mem, .ref b_mrk, .ref b_sf, .ref b_ss, .ref b_sr, .int m_on, .ref b_h, .int m_hc, .ref b_r, .int m_pc, .ref b_in, .int m_giv, .int m_tak, .ref b_out, .int m_put, .int m_st, .int m_cu, .int m_va, .int m_sp, .int m_un, .ref b_k, .int m_kc, .int m_kn, .int m_by, .int m_kd, .int m_tg, .int m_ju])), (b_row, .inl (tc 0, 2400, .inl rowT)), (b_part, .inl (tc 0, 4, .inl m_part))] s.heap.size = A at hD ⊢
  have hZ : ∀ q : Nat, A q → z0 ≤ q := by rw [← hAe]; exact hZ0
  have hA : ∀ q : Nat, s.heap.size ≤ q → A q := fun q h => by rw [← hAe]; exact Or.inr h
  have hS : va_S A s.heap s.heap [] := va_S.rf
  have hl := lv_entry ([.ref b_x, .int x0]) (n := 5) (Nat.le_of_ble_eq_true rfl)
  rw [lg_entry_eq]
  generalize (lg_sl ([.ref b_x, .int x0]) ++ List.replicate (5 - (lg_sl ([.ref b_x, .int x0])).length) Slot.unset).toArray = ls at hl ⊢
  have hl : lv_has ls 5 [(0, .ref b_x), (1, .int x0)] := hl
  refine lv_iload_n hx hb d_M_find_0 rfl (lv_at hl 1 rfl) ?_
  refine roSi (As := [.int x0]) (rest := []) ⟨hx, hb, hml, hown, hts⟩ (mc_StepMachineModel_isLong l D tc tb z0 x0) (va_cwS 1 hts (goodS a_770 a_771 a_10 a_772) rfl rfl rfl hs_M_isLong ⟨Nat.le_of_ble_eq_true rfl, Nat.le_of_ble_eq_true rfl⟩) (hP.sub [] rfl) hK (hB.kept hS hZ) rfl hl.1 rfl (Nat.le_of_ble_eq_true rfl) d_M_find_1 ⟨Nat.zero_le _, Nat.zero_le _⟩ ?_
  refine lv_if_eq (tgt := 11) hx hb d_M_find_4 (by decide) (fun c_4 => ?_) (fun c_4 => ?_)
  · skip
    refine lv_bipush (v := 48) hx hb d_M_find_11 (by decide) ?_
    refine lv_istore_n (lv' := [(2, .int 48), (0, .ref b_x), (1, .int x0)]) hx hb d_M_find_13 rfl hl (by decide) rfl (fun ls hl => ?_)
    refine lv_iload_n hx hb d_M_find_14 rfl (lv_at hl 2 rfl) ?_
    refine roSi (As := [.int x0]) (rest := []) ⟨hx, hb, hml, hown, hts⟩ (mc_StepMachineModel_isLong l D tc tb z0 x0) (va_cwS 1 hts (goodS a_770 a_771 a_10 a_772) rfl rfl rfl hs_M_isLong ⟨Nat.le_of_ble_eq_true rfl, Nat.le_of_ble_eq_true rfl⟩) (hP.sub [] rfl) hK (hB.kept hS hZ) rfl hl.1 rfl (Nat.le_of_ble_eq_true rfl) d_M_find_15 ⟨Nat.zero_le _, Nat.zero_le _⟩ ?_
    refine lv_if_eq (tgt := 26) hx hb d_M_find_18 (by decide) (fun c_18 => ?_) (fun c_18 => absurd c_4 c_18)
    refine lv_bipush (v := 75) hx hb d_M_find_26 (by decide) ?_
    refine lv_istore_n (lv' := [(3, .int 75), (2, .int 48), (0, .ref b_x), (1, .int x0)]) hx hb d_M_find_28 rfl hl (by decide) rfl (fun ls hl => ?_)
    refine lv_iload_n hx hb d_M_find_29 rfl (lv_at hl 1 rfl) ?_
    refine lv_istore (lv' := [(4, .int 48), (3, .int 75), (2, .int 48), (0, .ref b_x), (1, .int x0)]) hx hb d_M_find_30 hl (by decide) rfl (fun ls hl => ?_)
    have loop_32 : ∀ (n_32 : Nat) (k_32 : Int32) (m_partL : Nat → Int32) (H : Heap) (locs : List Loc) (ls : Array Slot), (0 ≤ k_32.toInt) → ((75 : Int32).toInt - k_32.toInt).toNat < n_32 → (mF_StepMachineModel_find_L32 x0 n_32 k_32 m_partL) = (mF_StepMachineModel_find m_part x0) → va_P D vwCl [(b_x, .inr (9, [.ref b_row, .ref b_part, .ref b_mem, .ref b_mrk, .ref b_sf, .ref b_ss, .ref b_sr, .int m_on, .ref b_h, .int m_hc, .ref b_r, .int m_pc, .ref b_in, .int m_giv, .int m_tak, .ref b_out, .int m_put, .int m_st, .int m_cu, .int m_va, .int m_sp, .int m_un, .ref b_k, .int m_kc, .int m_kn, .int m_by, .int m_kd, .int m_tg, .int m_ju])), (b_row, .inl (tc 0, 2400, .inl rowT)), (b_part, .inl (tc 0, 4, .inl m_partL))] H → va_D A [(b_x, .inr (9, [.ref b_row, .ref b_part, .ref b_mem, .ref b_mrk, .ref b_sf, .ref b_ss, .ref b_sr, .int m_on, .ref b_h, .int m_hc, .ref b_r, .int m_pc, .ref b_in, .int m_giv, .int m_tak, .ref b_out, .int m_put, .int m_st, .int m_cu, .int m_va, .int m_sp, .int m_un, .ref b_k, .int m_kc, .int m_kn, .int m_by, .int m_kd, .int m_tg, .int m_ju])), (b_row, .inl (tc 0, 2400, .inl rowT)), (b_part, .inl (tc 0, 4, .inl m_partL))] → va_S A s.heap H locs → lv_has ls 5 [(4, .int k_32), (3, .int 75), (2, .int 48), (0, .ref b_x), (1, .int x0)] → W p l e (headSpec (wM y_M_find b_M_find 5 (some .int)) ({ frames := 5, cells := 0, slots := 0, locals := 113 })).room s m ([.ref b_x, .int x0]).toArray below meth c H locs 0 0 (MQ below (va_Qi (fun (r : Int32) (u : (Nat → Int32)) => (r, u) = (mF_StepMachineModel_find m_part x0)) (Bw D tc A (fun u => [(b_x, .inr (9, [.ref b_row, .ref b_part, .ref b_mem, .ref b_mrk, .ref b_sf, .ref b_ss, .ref b_sr, .int m_on, .ref b_h, .int m_hc, .ref b_r, .int m_pc, .ref b_in, .int m_giv, .int m_tak, .ref b_out, .int m_put, .int m_st, .int m_cu, .int m_va, .int m_sp, .int m_un, .ref b_k, .int m_kc, .int m_kn, .int m_by, .int m_kd, .int m_tg, .int m_ju])), (b_row, .inl (tc 0, 2400, .inl rowT)), (b_part, .inl (tc 0, 4, .inl u))])) A) ([.ref b_x, .int x0]).toArray s 0 0 A) (F0 m 32 ls []) := by
      intro n_32
      induction n_32 with
      | zero =>
        intro k_32 m_partL H locs ls hq hm
        exact absurd hm (Nat.not_lt_zero _)
      | succ n_32 ih_32 =>
        intro k_32 m_partL H locs ls hq hm_32 hF_32 hP hD hS hl
        refine lv_iload hx hb d_M_find_32 (lv_at hl 0 rfl) ?_
        refine lv_iload_n hx hb d_M_find_34 rfl (lv_at hl 1 rfl) ?_
        refine lv_icmp_ge (tgt := 57) hx hb d_M_find_35 (by decide) (fun c_35 => ?_) (fun c_35 => ?_)
        · skip
          refine lv_iconst (v := (-1)) hx hb d_M_find_57 (by decide) ?_
          exact W.iret (v := (-1)) hx hb hr (fun t ht hW => ⟨⟨_, m_partL, rfl, by rw [← hF_32, mF_StepMachineModel_find_L32, if_pos c_35], by rw [ht]; exact hP, va_K.moved hW.alike hK, hD⟩, hS.F ht⟩) hS.2.2 d_M_find_58
        · skip
          refine lv_aload_n hx hb d_M_find_38 rfl (lv_at hl 3 rfl) ?_
          refine lv_iload hx hb d_M_find_39 (lv_at hl 0 rfl) ?_
          refine lv_iload_n hx hb d_M_find_41 rfl (lv_at hl 4 rfl) ?_
          obtain ⟨q_42, e_42⟩ : ∃ z, z = (mF_StepMachineModel_take m_partL k_32 x0) := ⟨_, rfl⟩
          refine wVi (As := [.int k_32, .int x0]) (rest := []) e_42 ⟨hx, hb, hml, hown, hts⟩ (mc_StepMachineModel_take l D tc tb z0 _ b_x b_row b_part b_mem b_mrk b_sf b_ss b_sr b_h b_r b_in b_out b_k m_on m_hc m_pc m_giv m_tak m_put m_st m_cu m_va m_sp m_un m_kc m_kn m_by m_kd m_tg m_ju m_partL k_32 x0 (k75 hq c_35 (by decide))) (cwV 2 hts (goodV a_776 a_777 a_928 a_10 a_778) rfl rfl rfl hv_M_take ⟨Nat.le_of_ble_eq_true rfl, Nat.le_of_ble_eq_true rfl⟩) hP hD hS hA hZ hK hB [0, 1, 2] rfl (by decide) (fun _ => rfl) rfl rfl rfl hl.1 rfl (Nat.le_of_ble_eq_true rfl) d_M_find_42 ⟨Nat.zero_le _, Nat.zero_le _⟩ (fun H locs hP hD hS => ?_)
          have hP : va_P D vwCl [(b_x, .inr (9, [.ref b_row, .ref b_part, .ref b_mem, .ref b_mrk, .ref b_sf, .ref b_ss, .ref b_sr, .int m_on, .ref b_h, .int m_hc, .ref b_r, .int m_pc, .ref b_in, .int m_giv, .int m_tak, .ref b_out, .int m_put, .int m_st, .int m_cu, .int m_va, .int m_sp, .int m_un, .ref b_k, .int m_kc, .int m_kn, .int m_by, .int m_kd, .int m_tg, .int m_ju])), (b_row, .inl (tc 0, 2400, .inl rowT)), (b_part, .inl (tc 0, 4, .inl q_42.2))] H := hP
          have hD : va_D A [(b_x, .inr (9, [.ref b_row, .ref b_part, .ref b_mem, .ref b_mrk, .ref b_sf, .ref b_ss, .ref b_sr, .int m_on, .ref b_h, .int m_hc, .ref b_r, .int m_pc, .ref b_in, .int m_giv, .int m_tak, .ref b_out, .int m_put, .int m_st, .int m_cu, .int m_va, .int m_sp, .int m_un, .ref b_k, .int m_kc, .int m_kn, .int m_by, .int m_kd, .int m_tg, .int m_ju])), (b_row, .inl (tc 0, 2400, .inl rowT)), (b_part, .inl (tc 0, 4, .inl q_42.2))] := hD
          refine lv_if_eq (tgt := 51) hx hb d_M_find_45 (by decide) (fun c_45 => ?_) (fun c_45 => ?_)
          · skip
            refine lv_iinc (v := (k_32 + 1)) (lv' := [(4, .int (k_32 + 1)), (3, .int 75), (2, .int 48), (0, .ref b_x), (1, .int x0)]) hx hb d_M_find_51 hl (k := 0) rfl rfl (by decide) rfl (fun ls hl => ?_)
            refine lv_goto (tgt := 32) hx hb d_M_find_54 (by decide) ?_
            exact ih_32 (k_32 + 1) q_42.2 _ _ ls (st_nn c_35 hq) (ms_step c_35 hm_32) (by rw [← hF_32, mF_StepMachineModel_find_L32, if_neg c_35, ← e_42, mF_StepMachineModel_find_1, if_pos c_45]) hP hD hS (lv_sub hl [0, 1, 2, 3, 4] rfl)
          · skip
            refine lv_iload hx hb d_M_find_48 (lv_at hl 0 rfl) ?_
            exact W.iret (v := k_32) hx hb hr (fun t ht hW => ⟨⟨_, q_42.2, rfl, by rw [← hF_32, mF_StepMachineModel_find_L32, if_neg c_35, ← e_42, mF_StepMachineModel_find_1, if_neg c_45], by rw [ht]; exact hP, va_K.moved hW.alike hK, hD⟩, hS.F ht⟩) hS.2.2 d_M_find_50
    exact loop_32 (((75 : Int32).toInt - (48 : Int32).toInt).toNat + 1) (48 : Int32) m_part _ _ ls (by decide) (Nat.lt_succ_self _) (by rw [mF_StepMachineModel_find, if_pos c_4]) hP hD hS (lv_sub hl [0, 1, 2, 3, 4] rfl)
  · skip
    refine lv_iconst (v := 0) hx hb d_M_find_7 (by decide) ?_
    refine lv_goto (tgt := 13) hx hb d_M_find_8 (by decide) ?_
    refine lv_istore_n (lv' := [(2, .int 0), (0, .ref b_x), (1, .int x0)]) hx hb d_M_find_13 rfl hl (by decide) rfl (fun ls hl => ?_)
    refine lv_iload_n hx hb d_M_find_14 rfl (lv_at hl 2 rfl) ?_
    refine roSi (As := [.int x0]) (rest := []) ⟨hx, hb, hml, hown, hts⟩ (mc_StepMachineModel_isLong l D tc tb z0 x0) (va_cwS 1 hts (goodS a_770 a_771 a_10 a_772) rfl rfl rfl hs_M_isLong ⟨Nat.le_of_ble_eq_true rfl, Nat.le_of_ble_eq_true rfl⟩) (hP.sub [] rfl) hK (hB.kept hS hZ) rfl hl.1 rfl (Nat.le_of_ble_eq_true rfl) d_M_find_15 ⟨Nat.zero_le _, Nat.zero_le _⟩ ?_
    refine lv_if_eq (tgt := 26) hx hb d_M_find_18 (by decide) (fun c_18 => absurd c_18 c_4) (fun c_18 => ?_)
    refine lv_bipush (v := 48) hx hb d_M_find_21 (by decide) ?_
    refine lv_goto (tgt := 28) hx hb d_M_find_23 (by decide) ?_
    refine lv_istore_n (lv' := [(3, .int 48), (2, .int 0), (0, .ref b_x), (1, .int x0)]) hx hb d_M_find_28 rfl hl (by decide) rfl (fun ls hl => ?_)
    refine lv_iload_n hx hb d_M_find_29 rfl (lv_at hl 1 rfl) ?_
    refine lv_istore (lv' := [(4, .int 0), (3, .int 48), (2, .int 0), (0, .ref b_x), (1, .int x0)]) hx hb d_M_find_30 hl (by decide) rfl (fun ls hl => ?_)
    have loop_32 : ∀ (n_32 : Nat) (k_32 : Int32) (m_partL : Nat → Int32) (H : Heap) (locs : List Loc) (ls : Array Slot), (0 ≤ k_32.toInt) → ((48 : Int32).toInt - k_32.toInt).toNat < n_32 → (mF_StepMachineModel_find_L32b x0 n_32 k_32 m_partL) = (mF_StepMachineModel_find m_part x0) → va_P D vwCl [(b_x, .inr (9, [.ref b_row, .ref b_part, .ref b_mem, .ref b_mrk, .ref b_sf, .ref b_ss, .ref b_sr, .int m_on, .ref b_h, .int m_hc, .ref b_r, .int m_pc, .ref b_in, .int m_giv, .int m_tak, .ref b_out, .int m_put, .int m_st, .int m_cu, .int m_va, .int m_sp, .int m_un, .ref b_k, .int m_kc, .int m_kn, .int m_by, .int m_kd, .int m_tg, .int m_ju])), (b_row, .inl (tc 0, 2400, .inl rowT)), (b_part, .inl (tc 0, 4, .inl m_partL))] H → va_D A [(b_x, .inr (9, [.ref b_row, .ref b_part, .ref b_mem, .ref b_mrk, .ref b_sf, .ref b_ss, .ref b_sr, .int m_on, .ref b_h, .int m_hc, .ref b_r, .int m_pc, .ref b_in, .int m_giv, .int m_tak, .ref b_out, .int m_put, .int m_st, .int m_cu, .int m_va, .int m_sp, .int m_un, .ref b_k, .int m_kc, .int m_kn, .int m_by, .int m_kd, .int m_tg, .int m_ju])), (b_row, .inl (tc 0, 2400, .inl rowT)), (b_part, .inl (tc 0, 4, .inl m_partL))] → va_S A s.heap H locs → lv_has ls 5 [(4, .int k_32), (3, .int 48), (2, .int 0), (0, .ref b_x), (1, .int x0)] → W p l e (headSpec (wM y_M_find b_M_find 5 (some .int)) ({ frames := 5, cells := 0, slots := 0, locals := 113 })).room s m ([.ref b_x, .int x0]).toArray below meth c H locs 0 0 (MQ below (va_Qi (fun (r : Int32) (u : (Nat → Int32)) => (r, u) = (mF_StepMachineModel_find m_part x0)) (Bw D tc A (fun u => [(b_x, .inr (9, [.ref b_row, .ref b_part, .ref b_mem, .ref b_mrk, .ref b_sf, .ref b_ss, .ref b_sr, .int m_on, .ref b_h, .int m_hc, .ref b_r, .int m_pc, .ref b_in, .int m_giv, .int m_tak, .ref b_out, .int m_put, .int m_st, .int m_cu, .int m_va, .int m_sp, .int m_un, .ref b_k, .int m_kc, .int m_kn, .int m_by, .int m_kd, .int m_tg, .int m_ju])), (b_row, .inl (tc 0, 2400, .inl rowT)), (b_part, .inl (tc 0, 4, .inl u))])) A) ([.ref b_x, .int x0]).toArray s 0 0 A) (F0 m 32 ls []) := by
      intro n_32
      induction n_32 with
      | zero =>
        intro k_32 m_partL H locs ls hq hm
        exact absurd hm (Nat.not_lt_zero _)
      | succ n_32 ih_32 =>
        intro k_32 m_partL H locs ls hq hm_32 hF_32 hP hD hS hl
        refine lv_iload hx hb d_M_find_32 (lv_at hl 0 rfl) ?_
        refine lv_iload_n hx hb d_M_find_34 rfl (lv_at hl 1 rfl) ?_
        refine lv_icmp_ge (tgt := 57) hx hb d_M_find_35 (by decide) (fun c_35 => ?_) (fun c_35 => ?_)
        · skip
          refine lv_iconst (v := (-1)) hx hb d_M_find_57 (by decide) ?_
          exact W.iret (v := (-1)) hx hb hr (fun t ht hW => ⟨⟨_, m_partL, rfl, by rw [← hF_32, mF_StepMachineModel_find_L32b, if_pos c_35], by rw [ht]; exact hP, va_K.moved hW.alike hK, hD⟩, hS.F ht⟩) hS.2.2 d_M_find_58
        · skip
          refine lv_aload_n hx hb d_M_find_38 rfl (lv_at hl 3 rfl) ?_
          refine lv_iload hx hb d_M_find_39 (lv_at hl 0 rfl) ?_
          refine lv_iload_n hx hb d_M_find_41 rfl (lv_at hl 4 rfl) ?_
          obtain ⟨q_42, e_42⟩ : ∃ z, z = (mF_StepMachineModel_take m_partL k_32 x0) := ⟨_, rfl⟩
          refine wVi (As := [.int k_32, .int x0]) (rest := []) e_42 ⟨hx, hb, hml, hown, hts⟩ (mc_StepMachineModel_take l D tc tb z0 _ b_x b_row b_part b_mem b_mrk b_sf b_ss b_sr b_h b_r b_in b_out b_k m_on m_hc m_pc m_giv m_tak m_put m_st m_cu m_va m_sp m_un m_kc m_kn m_by m_kd m_tg m_ju m_partL k_32 x0 (k75 hq c_35 (by decide))) (cwV 2 hts (goodV a_776 a_777 a_928 a_10 a_778) rfl rfl rfl hv_M_take ⟨Nat.le_of_ble_eq_true rfl, Nat.le_of_ble_eq_true rfl⟩) hP hD hS hA hZ hK hB [0, 1, 2] rfl (by decide) (fun _ => rfl) rfl rfl rfl hl.1 rfl (Nat.le_of_ble_eq_true rfl) d_M_find_42 ⟨Nat.zero_le _, Nat.zero_le _⟩ (fun H locs hP hD hS => ?_)
          have hP : va_P D vwCl [(b_x, .inr (9, [.ref b_row, .ref b_part, .ref b_mem, .ref b_mrk, .ref b_sf, .ref b_ss, .ref b_sr, .int m_on, .ref b_h, .int m_hc, .ref b_r, .int m_pc, .ref b_in, .int m_giv, .int m_tak, .ref b_out, .int m_put, .int m_st, .int m_cu, .int m_va, .int m_sp, .int m_un, .ref b_k, .int m_kc, .int m_kn, .int m_by, .int m_kd, .int m_tg, .int m_ju])), (b_row, .inl (tc 0, 2400, .inl rowT)), (b_part, .inl (tc 0, 4, .inl q_42.2))] H := hP
          have hD : va_D A [(b_x, .inr (9, [.ref b_row, .ref b_part, .ref b_mem, .ref b_mrk, .ref b_sf, .ref b_ss, .ref b_sr, .int m_on, .ref b_h, .int m_hc, .ref b_r, .int m_pc, .ref b_in, .int m_giv, .int m_tak, .ref b_out, .int m_put, .int m_st, .int m_cu, .int m_va, .int m_sp, .int m_un, .ref b_k, .int m_kc, .int m_kn, .int m_by, .int m_kd, .int m_tg, .int m_ju])), (b_row, .inl (tc 0, 2400, .inl rowT)), (b_part, .inl (tc 0, 4, .inl q_42.2))] := hD
          refine lv_if_eq (tgt := 51) hx hb d_M_find_45 (by decide) (fun c_45 => ?_) (fun c_45 => ?_)
          · skip
            refine lv_iinc (v := (k_32 + 1)) (lv' := [(4, .int (k_32 + 1)), (3, .int 48), (2, .int 0), (0, .ref b_x), (1, .int x0)]) hx hb d_M_find_51 hl (k := 0) rfl rfl (by decide) rfl (fun ls hl => ?_)
            refine lv_goto (tgt := 32) hx hb d_M_find_54 (by decide) ?_
            exact ih_32 (k_32 + 1) q_42.2 _ _ ls (st_nn c_35 hq) (ms_step c_35 hm_32) (by rw [← hF_32, mF_StepMachineModel_find_L32b, if_neg c_35, ← e_42, mF_StepMachineModel_find_2, if_pos c_45]) hP hD hS (lv_sub hl [0, 1, 2, 3, 4] rfl)
          · skip
            refine lv_iload hx hb d_M_find_48 (lv_at hl 0 rfl) ?_
            exact W.iret (v := k_32) hx hb hr (fun t ht hW => ⟨⟨_, q_42.2, rfl, by rw [← hF_32, mF_StepMachineModel_find_L32b, if_neg c_35, ← e_42, mF_StepMachineModel_find_2, if_neg c_45], by rw [ht]; exact hP, va_K.moved hW.alike hK, hD⟩, hS.F ht⟩) hS.2.2 d_M_find_50
    exact loop_32 (((48 : Int32).toInt - (0 : Int32).toInt).toNat + 1) (0 : Int32) m_part _ _ ls (by decide) (Nat.lt_succ_self _) (by rw [mF_StepMachineModel_find, if_neg c_4]) hP hD hS (lv_sub hl [0, 1, 2, 3, 4] rfl)
def mF_StepMachineModel_stretch (m_part : Nat → Int32) (x0 : Int32) : Int32 × (Nat → Int32) := (if x0 = 52 then ((mF_StepMachineModel_put (upd m_part (1 : Int32).toNatClampNeg (m_part (0 : Int32).toNatClampNeg)) (mF_StepMachineModel_longKind x0)), (upd m_part (1 : Int32).toNatClampNeg (m_part (0 : Int32).toNatClampNeg))) else (if x0 = 57 then ((mF_StepMachineModel_put (upd m_part (1 : Int32).toNatClampNeg (m_part (0 : Int32).toNatClampNeg)) (mF_StepMachineModel_longKind x0)), (upd m_part (1 : Int32).toNatClampNeg (m_part (0 : Int32).toNatClampNeg))) else (if x0 = 58 then ((mF_StepMachineModel_put (upd m_part (1 : Int32).toNatClampNeg (m_part (0 : Int32).toNatClampNeg)) (mF_StepMachineModel_longKind x0)), (upd m_part (1 : Int32).toNatClampNeg (m_part (0 : Int32).toNatClampNeg))) else (if x0 = 59 then ((mF_StepMachineModel_put (upd m_part (1 : Int32).toNatClampNeg (m_part (0 : Int32).toNatClampNeg)) (mF_StepMachineModel_longKind x0)), (upd m_part (1 : Int32).toNatClampNeg (m_part (0 : Int32).toNatClampNeg))) else (if x0 ≤ 59 then (if x0 = 67 then ((mF_StepMachineModel_put (upd m_part (1 : Int32).toNatClampNeg (m_part (0 : Int32).toNatClampNeg)) (mF_StepMachineModel_longKind x0)), (upd m_part (1 : Int32).toNatClampNeg (m_part (0 : Int32).toNatClampNeg))) else (if x0 = 73 then ((mF_StepMachineModel_put (upd m_part (1 : Int32).toNatClampNeg (m_part (0 : Int32).toNatClampNeg)) (mF_StepMachineModel_longKind x0)), (upd m_part (1 : Int32).toNatClampNeg (m_part (0 : Int32).toNatClampNeg))) else (if x0 = 48 then ((mF_StepMachineModel_put (upd m_part (1 : Int32).toNatClampNeg 2) (mF_StepMachineModel_longKind x0)), (upd m_part (1 : Int32).toNatClampNeg 2)) else (if x0 = 55 then ((mF_StepMachineModel_put (upd (upd m_part (1 : Int32).toNatClampNeg 2) (0 : Int32).toNatClampNeg 2) (mF_StepMachineModel_longKind x0)), (upd (upd m_part (1 : Int32).toNatClampNeg 2) (0 : Int32).toNatClampNeg 2)) else (if x0 = 68 then ((mF_StepMachineModel_put (upd m_part (1 : Int32).toNatClampNeg 2) (mF_StepMachineModel_longKind x0)), (upd m_part (1 : Int32).toNatClampNeg 2)) else (if x0 = 74 then ((mF_StepMachineModel_put (upd m_part (1 : Int32).toNatClampNeg 2) (mF_StepMachineModel_longKind x0)), (upd m_part (1 : Int32).toNatClampNeg 2)) else (if x0 = 51 then ((mF_StepMachineModel_put (upd (upd (upd m_part (1 : Int32).toNatClampNeg 0) (0 : Int32).toNatClampNeg 0) (3 : Int32).toNatClampNeg 0) (mF_StepMachineModel_longKind x0)), (upd (upd (upd m_part (1 : Int32).toNatClampNeg 0) (0 : Int32).toNatClampNeg 0) (3 : Int32).toNatClampNeg 0)) else (if x0 = 54 then ((mF_StepMachineModel_put (upd m_part (1 : Int32).toNatClampNeg 0) (mF_StepMachineModel_longKind x0)), (upd m_part (1 : Int32).toNatClampNeg 0)) else (if x0 = 70 then ((mF_StepMachineModel_put (upd m_part (1 : Int32).toNatClampNeg 0) (mF_StepMachineModel_longKind x0)), (upd m_part (1 : Int32).toNatClampNeg 0)) else (if x0 = 64 then ((mF_StepMachineModel_put (upd m_part (0 : Int32).toNatClampNeg 0) (mF_StepMachineModel_longKind x0)), (upd m_part (0 : Int32).toNatClampNeg 0)) else (if x0 = 69 then ((mF_StepMachineModel_put (upd (upd m_part (0 : Int32).toNatClampNeg 0) (3 : Int32).toNatClampNeg 0) (mF_StepMachineModel_longKind x0)), (upd (upd m_part (0 : Int32).toNatClampNeg 0) (3 : Int32).toNatClampNeg 0)) else (if x0 = 53 then ((mF_StepMachineModel_put (upd m_part (0 : Int32).toNatClampNeg 1) (mF_StepMachineModel_longKind x0)), (upd m_part (0 : Int32).toNatClampNeg 1)) else (if x0 = 72 then ((mF_StepMachineModel_put (upd (upd m_part (0 : Int32).toNatClampNeg 1) (3 : Int32).toNatClampNeg 0) (mF_StepMachineModel_longKind x0)), (upd (upd m_part (0 : Int32).toNatClampNeg 1) (3 : Int32).toNatClampNeg 0)) else (if x0 = 65 then ((mF_StepMachineModel_put (upd m_part (2 : Int32).toNatClampNeg 0) (mF_StepMachineModel_longKind x0)), (upd m_part (2 : Int32).toNatClampNeg 0)) else (if x0 = 66 then ((mF_StepMachineModel_put (upd m_part (2 : Int32).toNatClampNeg 0) (mF_StepMachineModel_longKind x0)), (upd m_part (2 : Int32).toNatClampNeg 0)) else ((mF_StepMachineModel_put m_part (mF_StepMachineModel_longKind x0)), m_part)))))))))))))))) else (if x0 < 64 then (if x0 = 48 then ((mF_StepMachineModel_put (upd (upd m_part (1 : Int32).toNatClampNeg (m_part (0 : Int32).toNatClampNeg)) (1 : Int32).toNatClampNeg 2) (mF_StepMachineModel_longKind x0)), (upd (upd m_part (1 : Int32).toNatClampNeg (m_part (0 : Int32).toNatClampNeg)) (1 : Int32).toNatClampNeg 2)) else (if x0 = 55 then ((mF_StepMachineModel_put (upd (upd (upd m_part (1 : Int32).toNatClampNeg (m_part (0 : Int32).toNatClampNeg)) (1 : Int32).toNatClampNeg 2) (0 : Int32).toNatClampNeg 2) (mF_StepMachineModel_longKind x0)), (upd (upd (upd m_part (1 : Int32).toNatClampNeg (m_part (0 : Int32).toNatClampNeg)) (1 : Int32).toNatClampNeg 2) (0 : Int32).toNatClampNeg 2)) else (if x0 = 68 then ((mF_StepMachineModel_put (upd (upd m_part (1 : Int32).toNatClampNeg (m_part (0 : Int32).toNatClampNeg)) (1 : Int32).toNatClampNeg 2) (mF_StepMachineModel_longKind x0)), (upd (upd m_part (1 : Int32).toNatClampNeg (m_part (0 : Int32).toNatClampNeg)) (1 : Int32).toNatClampNeg 2)) else (if x0 = 74 then ((mF_StepMachineModel_put (upd (upd m_part (1 : Int32).toNatClampNeg (m_part (0 : Int32).toNatClampNeg)) (1 : Int32).toNatClampNeg 2) (mF_StepMachineModel_longKind x0)), (upd (upd m_part (1 : Int32).toNatClampNeg (m_part (0 : Int32).toNatClampNeg)) (1 : Int32).toNatClampNeg 2)) else (if x0 = 51 then ((mF_StepMachineModel_put (upd (upd (upd (upd m_part (1 : Int32).toNatClampNeg (m_part (0 : Int32).toNatClampNeg)) (1 : Int32).toNatClampNeg 0) (0 : Int32).toNatClampNeg 0) (3 : Int32).toNatClampNeg 0) (mF_StepMachineModel_longKind x0)), (upd (upd (upd (upd m_part (1 : Int32).toNatClampNeg (m_part (0 : Int32).toNatClampNeg)) (1 : Int32).toNatClampNeg 0) (0 : Int32).toNatClampNeg 0) (3 : Int32).toNatClampNeg 0)) else (if x0 = 54 then ((mF_StepMachineModel_put (upd (upd m_part (1 : Int32).toNatClampNeg (m_part (0 : Int32).toNatClampNeg)) (1 : Int32).toNatClampNeg 0) (mF_StepMachineModel_longKind x0)), (upd (upd m_part (1 : Int32).toNatClampNeg (m_part (0 : Int32).toNatClampNeg)) (1 : Int32).toNatClampNeg 0)) else (if x0 = 70 then ((mF_StepMachineModel_put (upd (upd m_part (1 : Int32).toNatClampNeg (m_part (0 : Int32).toNatClampNeg)) (1 : Int32).toNatClampNeg 0) (mF_StepMachineModel_longKind x0)), (upd (upd m_part (1 : Int32).toNatClampNeg (m_part (0 : Int32).toNatClampNeg)) (1 : Int32).toNatClampNeg 0)) else (if x0 = 64 then ((mF_StepMachineModel_put (upd (upd m_part (1 : Int32).toNatClampNeg (m_part (0 : Int32).toNatClampNeg)) (0 : Int32).toNatClampNeg 0) (mF_StepMachineModel_longKind x0)), (upd (upd m_part (1 : Int32).toNatClampNeg (m_part (0 : Int32).toNatClampNeg)) (0 : Int32).toNatClampNeg 0)) else (if x0 = 69 then ((mF_StepMachineModel_put (upd (upd (upd m_part (1 : Int32).toNatClampNeg (m_part (0 : Int32).toNatClampNeg)) (0 : Int32).toNatClampNeg 0) (3 : Int32).toNatClampNeg 0) (mF_StepMachineModel_longKind x0)), (upd (upd (upd m_part (1 : Int32).toNatClampNeg (m_part (0 : Int32).toNatClampNeg)) (0 : Int32).toNatClampNeg 0) (3 : Int32).toNatClampNeg 0)) else (if x0 = 53 then ((mF_StepMachineModel_put (upd (upd m_part (1 : Int32).toNatClampNeg (m_part (0 : Int32).toNatClampNeg)) (0 : Int32).toNatClampNeg 1) (mF_StepMachineModel_longKind x0)), (upd (upd m_part (1 : Int32).toNatClampNeg (m_part (0 : Int32).toNatClampNeg)) (0 : Int32).toNatClampNeg 1)) else (if x0 = 72 then ((mF_StepMachineModel_put (upd (upd (upd m_part (1 : Int32).toNatClampNeg (m_part (0 : Int32).toNatClampNeg)) (0 : Int32).toNatClampNeg 1) (3 : Int32).toNatClampNeg 0) (mF_StepMachineModel_longKind x0)), (upd (upd (upd m_part (1 : Int32).toNatClampNeg (m_part (0 : Int32).toNatClampNeg)) (0 : Int32).toNatClampNeg 1) (3 : Int32).toNatClampNeg 0)) else (if x0 = 65 then ((mF_StepMachineModel_put (upd (upd m_part (1 : Int32).toNatClampNeg (m_part (0 : Int32).toNatClampNeg)) (2 : Int32).toNatClampNeg 0) (mF_StepMachineModel_longKind x0)), (upd (upd m_part (1 : Int32).toNatClampNeg (m_part (0 : Int32).toNatClampNeg)) (2 : Int32).toNatClampNeg 0)) else (if x0 = 66 then ((mF_StepMachineModel_put (upd (upd m_part (1 : Int32).toNatClampNeg (m_part (0 : Int32).toNatClampNeg)) (2 : Int32).toNatClampNeg 0) (mF_StepMachineModel_longKind x0)), (upd (upd m_part (1 : Int32).toNatClampNeg (m_part (0 : Int32).toNatClampNeg)) (2 : Int32).toNatClampNeg 0)) else ((mF_StepMachineModel_put (upd m_part (1 : Int32).toNatClampNeg (m_part (0 : Int32).toNatClampNeg)) (mF_StepMachineModel_longKind x0)), (upd m_part (1 : Int32).toNatClampNeg (m_part (0 : Int32).toNatClampNeg)))))))))))))))) else (if x0 = 67 then ((mF_StepMachineModel_put (upd m_part (1 : Int32).toNatClampNeg (m_part (0 : Int32).toNatClampNeg)) (mF_StepMachineModel_longKind x0)), (upd m_part (1 : Int32).toNatClampNeg (m_part (0 : Int32).toNatClampNeg))) else (if x0 = 73 then ((mF_StepMachineModel_put (upd m_part (1 : Int32).toNatClampNeg (m_part (0 : Int32).toNatClampNeg)) (mF_StepMachineModel_longKind x0)), (upd m_part (1 : Int32).toNatClampNeg (m_part (0 : Int32).toNatClampNeg))) else (if x0 = 48 then ((mF_StepMachineModel_put (upd m_part (1 : Int32).toNatClampNeg 2) (mF_StepMachineModel_longKind x0)), (upd m_part (1 : Int32).toNatClampNeg 2)) else (if x0 = 55 then ((mF_StepMachineModel_put (upd (upd m_part (1 : Int32).toNatClampNeg 2) (0 : Int32).toNatClampNeg 2) (mF_StepMachineModel_longKind x0)), (upd (upd m_part (1 : Int32).toNatClampNeg 2) (0 : Int32).toNatClampNeg 2)) else (if x0 = 68 then ((mF_StepMachineModel_put (upd m_part (1 : Int32).toNatClampNeg 2) (mF_StepMachineModel_longKind x0)), (upd m_part (1 : Int32).toNatClampNeg 2)) else (if x0 = 74 then ((mF_StepMachineModel_put (upd m_part (1 : Int32).toNatClampNeg 2) (mF_StepMachineModel_longKind x0)), (upd m_part (1 : Int32).toNatClampNeg 2)) else (if x0 = 51 then ((mF_StepMachineModel_put (upd (upd (upd m_part (1 : Int32).toNatClampNeg 0) (0 : Int32).toNatClampNeg 0) (3 : Int32).toNatClampNeg 0) (mF_StepMachineModel_longKind x0)), (upd (upd (upd m_part (1 : Int32).toNatClampNeg 0) (0 : Int32).toNatClampNeg 0) (3 : Int32).toNatClampNeg 0)) else (if x0 = 54 then ((mF_StepMachineModel_put (upd m_part (1 : Int32).toNatClampNeg 0) (mF_StepMachineModel_longKind x0)), (upd m_part (1 : Int32).toNatClampNeg 0)) else (if x0 = 70 then ((mF_StepMachineModel_put (upd m_part (1 : Int32).toNatClampNeg 0) (mF_StepMachineModel_longKind x0)), (upd m_part (1 : Int32).toNatClampNeg 0)) else (if x0 = 64 then ((mF_StepMachineModel_put (upd m_part (0 : Int32).toNatClampNeg 0) (mF_StepMachineModel_longKind x0)), (upd m_part (0 : Int32).toNatClampNeg 0)) else (if x0 = 69 then ((mF_StepMachineModel_put (upd (upd m_part (0 : Int32).toNatClampNeg 0) (3 : Int32).toNatClampNeg 0) (mF_StepMachineModel_longKind x0)), (upd (upd m_part (0 : Int32).toNatClampNeg 0) (3 : Int32).toNatClampNeg 0)) else (if x0 = 53 then ((mF_StepMachineModel_put (upd m_part (0 : Int32).toNatClampNeg 1) (mF_StepMachineModel_longKind x0)), (upd m_part (0 : Int32).toNatClampNeg 1)) else (if x0 = 72 then ((mF_StepMachineModel_put (upd (upd m_part (0 : Int32).toNatClampNeg 1) (3 : Int32).toNatClampNeg 0) (mF_StepMachineModel_longKind x0)), (upd (upd m_part (0 : Int32).toNatClampNeg 1) (3 : Int32).toNatClampNeg 0)) else (if x0 = 65 then ((mF_StepMachineModel_put (upd m_part (2 : Int32).toNatClampNeg 0) (mF_StepMachineModel_longKind x0)), (upd m_part (2 : Int32).toNatClampNeg 0)) else (if x0 = 66 then ((mF_StepMachineModel_put (upd m_part (2 : Int32).toNatClampNeg 0) (mF_StepMachineModel_longKind x0)), (upd m_part (2 : Int32).toNatClampNeg 0)) else ((mF_StepMachineModel_put m_part (mF_StepMachineModel_longKind x0)), m_part))))))))))))))))))))))
set_option maxHeartbeats 4000000 in
set_option maxRecDepth 100000 in
theorem mc_StepMachineModel_stretch (l : Launch) (D : va_G) (tc : Nat → ClassId) (tb : Nat → Nat) (z0 : Nat) (sz : Nat) (b_x b_row b_part b_mem b_mrk b_sf b_ss b_sr b_h b_r b_in b_out b_k : Nat) (m_on : Int32) (m_hc : Int32) (m_pc : Int32) (m_giv : Int32) (m_tak : Int32) (m_put : Int32) (m_st : Int32) (m_cu : Int32) (m_va : Int32) (m_sp : Int32) (m_un : Int32) (m_kc : Int32) (m_kn : Int32) (m_by : Int32) (m_kd : Int32) (m_tg : Int32) (m_ju : Int32) (m_part : Nat → Int32) (x0 : Int32) : Met l y_M_stretch (wM y_M_stretch b_M_stretch 5 (some .int)) ({ frames := 2, cells := 0, slots := 0, locals := 45 }) (va_Pc [.ref b_x, .int x0] (Pw D tc tb z0 [(b_x, .inr (9, [.ref b_row, .ref b_part, .ref b_mem, .ref b_mrk, .ref b_sf, .ref b_ss, .ref b_sr, .int m_on, .ref b_h, .int m_hc, .ref b_r, .int m_pc, .ref b_in, .int m_giv, .int m_tak, .ref b_out, .int m_put, .int m_st, .int m_cu, .int m_va, .int m_sp, .int m_un, .ref b_k, .int m_kc, .int m_kn, .int m_by, .int m_kd, .int m_tg, .int m_ju])), (b_row, .inl (tc 0, 2400, .inl rowT)), (b_part, .inl (tc 0, 4, .inl m_part))] sz)) (va_Qi (fun (r : Int32) (u : (Nat → Int32)) => (r, u) = (mF_StepMachineModel_stretch m_part x0)) (Bw D tc (va_A [(b_x, .inr (9, [.ref b_row, .ref b_part, .ref b_mem, .ref b_mrk, .ref b_sf, .ref b_ss, .ref b_sr, .int m_on, .ref b_h, .int m_hc, .ref b_r, .int m_pc, .ref b_in, .int m_giv, .int m_tak, .ref b_out, .int m_put, .int m_st, .int m_cu, .int m_va, .int m_sp, .int m_un, .ref b_k, .int m_kc, .int m_kn, .int m_by, .int m_kd, .int m_tg, .int m_ju])), (b_row, .inl (tc 0, 2400, .inl rowT)), (b_part, .inl (tc 0, 4, .inl m_part))] sz) (fun u => [(b_x, .inr (9, [.ref b_row, .ref b_part, .ref b_mem, .ref b_mrk, .ref b_sf, .ref b_ss, .ref b_sr, .int m_on, .ref b_h, .int m_hc, .ref b_r, .int m_pc, .ref b_in, .int m_giv, .int m_tak, .ref b_out, .int m_put, .int m_st, .int m_cu, .int m_va, .int m_sp, .int m_un, .ref b_k, .int m_kc, .int m_kn, .int m_by, .int m_kd, .int m_tg, .int m_ju])), (b_row, .inl (tc 0, 2400, .inl rowT)), (b_part, .inl (tc 0, 4, .inl u))])) (va_A [(b_x, .inr (9, [.ref b_row, .ref b_part, .ref b_mem, .ref b_mrk, .ref b_sf, .ref b_ss, .ref b_sr, .int m_on, .ref b_h, .int m_hc, .ref b_r, .int m_pc, .ref b_in, .int m_giv, .int m_tak, .ref b_out, .int m_put, .int m_st, .int m_cu, .int m_va, .int m_sp, .int m_un, .ref b_k, .int m_kc, .int m_kn, .int m_by, .int m_kd, .int m_tg, .int m_ju])), (b_row, .inl (tc 0, 2400, .inl rowT)), (b_part, .inl (tc 0, 4, .inl m_part))] sz)) 0 0 (va_A [(b_x, .inr (9, [.ref b_row, .ref b_part, .ref b_mem, .ref b_mrk, .ref b_sf, .ref b_ss, .ref b_sr, .int m_on, .ref b_h, .int m_hc, .ref b_r, .int m_pc, .ref b_in, .int m_giv, .int m_tak, .ref b_out, .int m_put, .int m_st, .int m_cu, .int m_va, .int m_sp, .int m_un, .ref b_k, .int m_kc, .int m_kn, .int m_by, .int m_kd, .int m_tg, .int m_ju])), (b_row, .inl (tc 0, 2400, .inl rowT)), (b_part, .inl (tc 0, 4, .inl m_part))] sz) := by
  refine Met.ofW (cc := b_M_stretch) (maxL := 5) (ret := (some .int)) (by decide) rfl ?_
  intro p e s m args below meth c s₁ B hml hv
  obtain ⟨rfl, hsz, hP, hK, hB, hD0, hZ0⟩ := hv
  have hx := B.exec
  have hb := B.bytes
  have hr := B.returns
  have hts : ∀ w ∈ wALL, w.before _ s = true := fun w h => atoms_spec (ws := (wM y_M_stretch b_M_stretch 5 (some .int))) B.pre w (List.mem_cons_of_mem _ h)
  have hown : s.vm.findClass "StepMachineModel" = some m.cls := findClass_of_methodNamed B.named
  have hlocks := B.notSynchronized
  subst hsz
  have hD := hD0.self (sz := s.heap.size)
  generalize hAe : va_A [(b_x, .inr (9, [.ref b_row, .ref b_part, .ref b_mem, .ref b_mrk, .ref b_sf, .ref b_ss, .ref b_sr, .int m_on, .ref b_h, .int m_hc, .ref b_r, .int m_pc, .ref b_in, .int m_giv, .int m_tak, .ref b_out, .int m_put, .int m_st, .int m_cu, .int m_va, .int m_sp, .int m_un, .ref b_k, .int m_kc, .int m_kn, .int m_by, .int m_kd, .int m_tg, .int m_ju])), (b_row, .inl (tc 0, 2400, .inl rowT)), (b_part, .inl (tc 0, 4, .inl m_part))] s.heap.size = A at hD ⊢
  have hZ : ∀ q : Nat, A q → z0 ≤ q := by rw [← hAe]; exact hZ0
  have hA : ∀ q : Nat, s.heap.size ≤ q → A q := fun q h => by rw [← hAe]; exact Or.inr h
  have hS : va_S A s.heap s.heap [] := va_S.rf
  have hl := lv_entry ([.ref b_x, .int x0]) (n := 5) (Nat.le_of_ble_eq_true rfl)
  rw [lg_entry_eq]
  generalize (lg_sl ([.ref b_x, .int x0]) ++ List.replicate (5 - (lg_sl ([.ref b_x, .int x0])).length) Slot.unset).toArray = ls at hl ⊢
  have hl : lv_has ls 5 [(0, .ref b_x), (1, .int x0)] := hl
  refine lv_aload_n hx hb d_M_stretch_0 rfl (lv_at hl 0 rfl) ?_
  refine va_get (D := D) (ci := 9) (v := .ref b_part) (C := "StepMachineModel") (T := TX9) (N := 29) hx hb hts inU_9 hown hK hP 0 rfl rfl 1 (by decide) (hts _ a_634) (fun _ h9 => h9) rfl d_M_stretch_1 ?_
  refine lv_iconst (v := 0) hx hb d_M_stretch_4 (by decide) ?_
  refine va_iald hx hb hK hP 2 0 rfl rfl (vp_in_nI (n := 0) (N := 4) (by decide) (by decide)) d_M_stretch_5 ?_
  refine lv_istore_n (lv' := [(2, .int (m_part (0 : Int32).toNatClampNeg)), (0, .ref b_x), (1, .int x0)]) hx hb d_M_stretch_6 rfl hl (by decide) rfl (fun ls hl => ?_)
  refine lv_iload_n hx hb d_M_stretch_7 rfl (lv_at hl 2 rfl) ?_
  refine lv_bipush (v := 52) hx hb d_M_stretch_8 (by decide) ?_
  refine lv_icmp_eq (tgt := 55) hx hb d_M_stretch_10 (by decide) (fun c_10 => ?_) (fun c_10 => ?_)
  · skip
    refine lv_iconst (v := 1) hx hb d_M_stretch_55 (by decide) ?_
    refine lv_goto (tgt := 60) hx hb d_M_stretch_56 (by decide) ?_
    refine lv_istore_n (lv' := [(3, .int 1), (2, .int (m_part (0 : Int32).toNatClampNeg)), (0, .ref b_x), (1, .int x0)]) hx hb d_M_stretch_60 rfl hl (by decide) rfl (fun ls hl => ?_)
    refine lv_iload_n hx hb d_M_stretch_61 rfl (lv_at hl 3 rfl) ?_
    refine lv_bipush (v := 48) hx hb d_M_stretch_62 (by decide) ?_
    refine lv_icmp_eq (tgt := 85) hx hb d_M_stretch_64 (by decide) (fun c_64 => absurd c_64 (by rw [c_10]; decide)) (fun c_64 => ?_)
    refine lv_iload_n hx hb d_M_stretch_67 rfl (lv_at hl 3 rfl) ?_
    refine lv_bipush (v := 55) hx hb d_M_stretch_68 (by decide) ?_
    refine lv_icmp_eq (tgt := 85) hx hb d_M_stretch_70 (by decide) (fun c_70 => absurd c_70 (by rw [c_10]; decide)) (fun c_70 => ?_)
    refine lv_iload_n hx hb d_M_stretch_73 rfl (lv_at hl 3 rfl) ?_
    refine lv_bipush (v := 68) hx hb d_M_stretch_74 (by decide) ?_
    refine lv_icmp_eq (tgt := 85) hx hb d_M_stretch_76 (by decide) (fun c_76 => absurd c_76 (by rw [c_10]; decide)) (fun c_76 => ?_)
    refine lv_iload_n hx hb d_M_stretch_79 rfl (lv_at hl 3 rfl) ?_
    refine lv_bipush (v := 74) hx hb d_M_stretch_80 (by decide) ?_
    refine lv_icmp_ne (tgt := 89) hx hb d_M_stretch_82 (by decide) (fun c_82 => ?_) (fun c_82 => absurd c_82 (by rw [c_10]; decide))
    refine lv_iconst (v := 0) hx hb d_M_stretch_89 (by decide) ?_
    refine lv_istore (lv' := [(4, .int 0), (3, .int 1), (2, .int (m_part (0 : Int32).toNatClampNeg)), (0, .ref b_x), (1, .int x0)]) hx hb d_M_stretch_90 hl (by decide) rfl (fun ls hl => ?_)
    refine lv_iload_n hx hb d_M_stretch_92 rfl (lv_at hl 1 rfl) ?_
    refine lv_if_eq (tgt := 103) hx hb d_M_stretch_93 (by decide) (fun c_93 => absurd c_93 (by decide)) (fun c_93 => ?_)
    refine lv_aload_n hx hb d_M_stretch_96 rfl (lv_at hl 3 rfl) ?_
    refine va_get (D := D) (ci := 9) (v := .ref b_part) (C := "StepMachineModel") (T := TX9) (N := 29) hx hb hts inU_9 hown hK hP 0 rfl rfl 1 (by decide) (hts _ a_634) (fun _ h9 => h9) rfl d_M_stretch_97 ?_
    refine lv_iconst (v := 1) hx hb d_M_stretch_100 (by decide) ?_
    refine lv_iload_n hx hb d_M_stretch_101 rfl (lv_at hl 2 rfl) ?_
    refine va_iast hx hb hK hP hD hS 2 0 rfl rfl (vp_in_nI (n := 1) (N := 4) (by decide) (by decide)) d_M_stretch_102 (fun H locs hP hD hS => ?_)
    have hP : va_P D vwCl [(b_x, .inr (9, [.ref b_row, .ref b_part, .ref b_mem, .ref b_mrk, .ref b_sf, .ref b_ss, .ref b_sr, .int m_on, .ref b_h, .int m_hc, .ref b_r, .int m_pc, .ref b_in, .int m_giv, .int m_tak, .ref b_out, .int m_put, .int m_st, .int m_cu, .int m_va, .int m_sp, .int m_un, .ref b_k, .int m_kc, .int m_kn, .int m_by, .int m_kd, .int m_tg, .int m_ju])), (b_row, .inl (tc 0, 2400, .inl rowT)), (b_part, .inl (tc 0, 4, .inl (upd m_part (1 : Int32).toNatClampNeg (m_part (0 : Int32).toNatClampNeg))))] H := hP
    have hD : va_D A [(b_x, .inr (9, [.ref b_row, .ref b_part, .ref b_mem, .ref b_mrk, .ref b_sf, .ref b_ss, .ref b_sr, .int m_on, .ref b_h, .int m_hc, .ref b_r, .int m_pc, .ref b_in, .int m_giv, .int m_tak, .ref b_out, .int m_put, .int m_st, .int m_cu, .int m_va, .int m_sp, .int m_un, .ref b_k, .int m_kc, .int m_kn, .int m_by, .int m_kd, .int m_tg, .int m_ju])), (b_row, .inl (tc 0, 2400, .inl rowT)), (b_part, .inl (tc 0, 4, .inl (upd m_part (1 : Int32).toNatClampNeg (m_part (0 : Int32).toNatClampNeg))))] := hD
    refine lv_iload hx hb d_M_stretch_103 (lv_at hl 0 rfl) ?_
    refine lv_if_eq (tgt := 115) hx hb d_M_stretch_105 (by decide) (fun c_105 => ?_) (fun c_105 => absurd c_105 (by decide))
    refine lv_iload_n hx hb d_M_stretch_115 rfl (lv_at hl 4 rfl) ?_
    refine lv_bipush (v := 51) hx hb d_M_stretch_116 (by decide) ?_
    refine lv_icmp_eq (tgt := 133) hx hb d_M_stretch_118 (by decide) (fun c_118 => absurd c_118 (by rw [c_10]; decide)) (fun c_118 => ?_)
    refine lv_iload_n hx hb d_M_stretch_121 rfl (lv_at hl 4 rfl) ?_
    refine lv_bipush (v := 54) hx hb d_M_stretch_122 (by decide) ?_
    refine lv_icmp_eq (tgt := 133) hx hb d_M_stretch_124 (by decide) (fun c_124 => absurd c_124 (by rw [c_10]; decide)) (fun c_124 => ?_)
    refine lv_iload_n hx hb d_M_stretch_127 rfl (lv_at hl 4 rfl) ?_
    refine lv_bipush (v := 70) hx hb d_M_stretch_128 (by decide) ?_
    refine lv_icmp_ne (tgt := 140) hx hb d_M_stretch_130 (by decide) (fun c_130 => ?_) (fun c_130 => absurd c_130 (by rw [c_10]; decide))
    refine lv_iload_n hx hb d_M_stretch_140 rfl (lv_at hl 4 rfl) ?_
    refine lv_bipush (v := 51) hx hb d_M_stretch_141 (by decide) ?_
    refine lv_icmp_eq (tgt := 158) hx hb d_M_stretch_143 (by decide) (fun c_143 => absurd c_143 (by rw [c_10]; decide)) (fun c_143 => ?_)
    refine lv_iload_n hx hb d_M_stretch_146 rfl (lv_at hl 4 rfl) ?_
    refine lv_bipush (v := 64) hx hb d_M_stretch_147 (by decide) ?_
    refine lv_icmp_eq (tgt := 158) hx hb d_M_stretch_149 (by decide) (fun c_149 => absurd c_149 (by rw [c_10]; decide)) (fun c_149 => ?_)
    refine lv_iload_n hx hb d_M_stretch_152 rfl (lv_at hl 4 rfl) ?_
    refine lv_bipush (v := 69) hx hb d_M_stretch_153 (by decide) ?_
    refine lv_icmp_ne (tgt := 165) hx hb d_M_stretch_155 (by decide) (fun c_155 => ?_) (fun c_155 => absurd c_155 (by rw [c_10]; decide))
    refine lv_iload_n hx hb d_M_stretch_165 rfl (lv_at hl 4 rfl) ?_
    refine lv_bipush (v := 53) hx hb d_M_stretch_166 (by decide) ?_
    refine lv_icmp_eq (tgt := 177) hx hb d_M_stretch_168 (by decide) (fun c_168 => absurd c_168 (by rw [c_10]; decide)) (fun c_168 => ?_)
    refine lv_iload_n hx hb d_M_stretch_171 rfl (lv_at hl 4 rfl) ?_
    refine lv_bipush (v := 72) hx hb d_M_stretch_172 (by decide) ?_
    refine lv_icmp_ne (tgt := 184) hx hb d_M_stretch_174 (by decide) (fun c_174 => ?_) (fun c_174 => absurd c_174 (by rw [c_10]; decide))
    refine lv_iload_n hx hb d_M_stretch_184 rfl (lv_at hl 4 rfl) ?_
    refine lv_bipush (v := 55) hx hb d_M_stretch_185 (by decide) ?_
    refine lv_icmp_ne (tgt := 197) hx hb d_M_stretch_187 (by decide) (fun c_187 => ?_) (fun c_187 => absurd c_187 (by rw [c_10]; decide))
    refine lv_iload_n hx hb d_M_stretch_197 rfl (lv_at hl 4 rfl) ?_
    refine lv_bipush (v := 65) hx hb d_M_stretch_198 (by decide) ?_
    refine lv_icmp_eq (tgt := 209) hx hb d_M_stretch_200 (by decide) (fun c_200 => absurd c_200 (by rw [c_10]; decide)) (fun c_200 => ?_)
    refine lv_iload_n hx hb d_M_stretch_203 rfl (lv_at hl 4 rfl) ?_
    refine lv_bipush (v := 66) hx hb d_M_stretch_204 (by decide) ?_
    refine lv_icmp_ne (tgt := 216) hx hb d_M_stretch_206 (by decide) (fun c_206 => ?_) (fun c_206 => absurd c_206 (by rw [c_10]; decide))
    refine lv_iload_n hx hb d_M_stretch_216 rfl (lv_at hl 4 rfl) ?_
    refine lv_bipush (v := 51) hx hb d_M_stretch_217 (by decide) ?_
    refine lv_icmp_eq (tgt := 234) hx hb d_M_stretch_219 (by decide) (fun c_219 => absurd c_219 (by rw [c_10]; decide)) (fun c_219 => ?_)
    refine lv_iload_n hx hb d_M_stretch_222 rfl (lv_at hl 4 rfl) ?_
    refine lv_bipush (v := 69) hx hb d_M_stretch_223 (by decide) ?_
    refine lv_icmp_eq (tgt := 234) hx hb d_M_stretch_225 (by decide) (fun c_225 => absurd c_225 (by rw [c_10]; decide)) (fun c_225 => ?_)
    refine lv_iload_n hx hb d_M_stretch_228 rfl (lv_at hl 4 rfl) ?_
    refine lv_bipush (v := 72) hx hb d_M_stretch_229 (by decide) ?_
    refine lv_icmp_ne (tgt := 241) hx hb d_M_stretch_231 (by decide) (fun c_231 => ?_) (fun c_231 => absurd c_231 (by rw [c_10]; decide))
    refine lv_aload_n hx hb d_M_stretch_241 rfl (lv_at hl 3 rfl) ?_
    refine lv_iload_n hx hb d_M_stretch_242 rfl (lv_at hl 4 rfl) ?_
    refine roSi (As := [.int x0]) (rest := [.ref b_x]) ⟨hx, hb, hml, hown, hts⟩ (mc_StepMachineModel_longKind l D tc tb z0 x0) (va_cwS 1 hts (goodS a_827 a_828 a_10 a_829) rfl rfl rfl hs_M_longKind ⟨Nat.le_of_ble_eq_true rfl, Nat.le_of_ble_eq_true rfl⟩) (hP.sub [] rfl) hK (hB.kept hS hZ) rfl hl.1 rfl (Nat.le_of_ble_eq_true rfl) d_M_stretch_243 ⟨Nat.zero_le _, Nat.zero_le _⟩ ?_
    refine roVi (As := [.int (mF_StepMachineModel_longKind x0)]) (rest := []) ⟨hx, hb, hml, hown, hts⟩ (mc_StepMachineModel_put l D tc tb z0 b_x b_row b_part b_mem b_mrk b_sf b_ss b_sr b_h b_r b_in b_out b_k m_on m_hc m_pc m_giv m_tak m_put m_st m_cu m_va m_sp m_un m_kc m_kn m_by m_kd m_tg m_ju (upd m_part (1 : Int32).toNatClampNeg (m_part (0 : Int32).toNatClampNeg)) (mF_StepMachineModel_longKind x0) (lk_rng _)) (cwV 1 hts (goodV a_830 a_831 a_934 a_10 a_832) rfl rfl rfl hv_M_put ⟨Nat.le_of_ble_eq_true rfl, Nat.le_of_ble_eq_true rfl⟩) (hP.sub [0, 1, 2] rfl) hK (hB.kept hS hZ) rfl rfl rfl hl.1 rfl (Nat.le_of_ble_eq_true rfl) d_M_stretch_246 ⟨Nat.zero_le _, Nat.zero_le _⟩ ?_
    exact W.iret (v := (mF_StepMachineModel_put (upd m_part (1 : Int32).toNatClampNeg (m_part (0 : Int32).toNatClampNeg)) (mF_StepMachineModel_longKind x0))) hx hb hr (fun t ht hW => ⟨⟨_, (upd m_part (1 : Int32).toNatClampNeg (m_part (0 : Int32).toNatClampNeg)), rfl, by rw [mF_StepMachineModel_stretch, if_pos c_10], by rw [ht]; exact hP, va_K.moved hW.alike hK, hD⟩, hS.F ht⟩) hS.2.2 d_M_stretch_249
  · skip
    refine lv_iload_n hx hb d_M_stretch_13 rfl (lv_at hl 2 rfl) ?_
    refine lv_bipush (v := 57) hx hb d_M_stretch_14 (by decide) ?_
    refine lv_icmp_eq (tgt := 55) hx hb d_M_stretch_16 (by decide) (fun c_16 => ?_) (fun c_16 => ?_)
    · skip
      refine lv_iconst (v := 1) hx hb d_M_stretch_55 (by decide) ?_
      refine lv_goto (tgt := 60) hx hb d_M_stretch_56 (by decide) ?_
      refine lv_istore_n (lv' := [(3, .int 1), (2, .int (m_part (0 : Int32).toNatClampNeg)), (0, .ref b_x), (1, .int x0)]) hx hb d_M_stretch_60 rfl hl (by decide) rfl (fun ls hl => ?_)
      refine lv_iload_n hx hb d_M_stretch_61 rfl (lv_at hl 3 rfl) ?_
      refine lv_bipush (v := 48) hx hb d_M_stretch_62 (by decide) ?_
      refine lv_icmp_eq (tgt := 85) hx hb d_M_stretch_64 (by decide) (fun c_64 => absurd c_64 (by rw [c_16]; decide)) (fun c_64 => ?_)
      refine lv_iload_n hx hb d_M_stretch_67 rfl (lv_at hl 3 rfl) ?_
      refine lv_bipush (v := 55) hx hb d_M_stretch_68 (by decide) ?_
      refine lv_icmp_eq (tgt := 85) hx hb d_M_stretch_70 (by decide) (fun c_70 => absurd c_70 (by rw [c_16]; decide)) (fun c_70 => ?_)
      refine lv_iload_n hx hb d_M_stretch_73 rfl (lv_at hl 3 rfl) ?_
      refine lv_bipush (v := 68) hx hb d_M_stretch_74 (by decide) ?_
      refine lv_icmp_eq (tgt := 85) hx hb d_M_stretch_76 (by decide) (fun c_76 => absurd c_76 (by rw [c_16]; decide)) (fun c_76 => ?_)
      refine lv_iload_n hx hb d_M_stretch_79 rfl (lv_at hl 3 rfl) ?_
      refine lv_bipush (v := 74) hx hb d_M_stretch_80 (by decide) ?_
      refine lv_icmp_ne (tgt := 89) hx hb d_M_stretch_82 (by decide) (fun c_82 => ?_) (fun c_82 => absurd c_82 (by rw [c_16]; decide))
      refine lv_iconst (v := 0) hx hb d_M_stretch_89 (by decide) ?_
      refine lv_istore (lv' := [(4, .int 0), (3, .int 1), (2, .int (m_part (0 : Int32).toNatClampNeg)), (0, .ref b_x), (1, .int x0)]) hx hb d_M_stretch_90 hl (by decide) rfl (fun ls hl => ?_)
      refine lv_iload_n hx hb d_M_stretch_92 rfl (lv_at hl 1 rfl) ?_
      refine lv_if_eq (tgt := 103) hx hb d_M_stretch_93 (by decide) (fun c_93 => absurd c_93 (by decide)) (fun c_93 => ?_)
      refine lv_aload_n hx hb d_M_stretch_96 rfl (lv_at hl 3 rfl) ?_
      refine va_get (D := D) (ci := 9) (v := .ref b_part) (C := "StepMachineModel") (T := TX9) (N := 29) hx hb hts inU_9 hown hK hP 0 rfl rfl 1 (by decide) (hts _ a_634) (fun _ h9 => h9) rfl d_M_stretch_97 ?_
      refine lv_iconst (v := 1) hx hb d_M_stretch_100 (by decide) ?_
      refine lv_iload_n hx hb d_M_stretch_101 rfl (lv_at hl 2 rfl) ?_
      refine va_iast hx hb hK hP hD hS 2 0 rfl rfl (vp_in_nI (n := 1) (N := 4) (by decide) (by decide)) d_M_stretch_102 (fun H locs hP hD hS => ?_)
      have hP : va_P D vwCl [(b_x, .inr (9, [.ref b_row, .ref b_part, .ref b_mem, .ref b_mrk, .ref b_sf, .ref b_ss, .ref b_sr, .int m_on, .ref b_h, .int m_hc, .ref b_r, .int m_pc, .ref b_in, .int m_giv, .int m_tak, .ref b_out, .int m_put, .int m_st, .int m_cu, .int m_va, .int m_sp, .int m_un, .ref b_k, .int m_kc, .int m_kn, .int m_by, .int m_kd, .int m_tg, .int m_ju])), (b_row, .inl (tc 0, 2400, .inl rowT)), (b_part, .inl (tc 0, 4, .inl (upd m_part (1 : Int32).toNatClampNeg (m_part (0 : Int32).toNatClampNeg))))] H := hP
      have hD : va_D A [(b_x, .inr (9, [.ref b_row, .ref b_part, .ref b_mem, .ref b_mrk, .ref b_sf, .ref b_ss, .ref b_sr, .int m_on, .ref b_h, .int m_hc, .ref b_r, .int m_pc, .ref b_in, .int m_giv, .int m_tak, .ref b_out, .int m_put, .int m_st, .int m_cu, .int m_va, .int m_sp, .int m_un, .ref b_k, .int m_kc, .int m_kn, .int m_by, .int m_kd, .int m_tg, .int m_ju])), (b_row, .inl (tc 0, 2400, .inl rowT)), (b_part, .inl (tc 0, 4, .inl (upd m_part (1 : Int32).toNatClampNeg (m_part (0 : Int32).toNatClampNeg))))] := hD
      refine lv_iload hx hb d_M_stretch_103 (lv_at hl 0 rfl) ?_
      refine lv_if_eq (tgt := 115) hx hb d_M_stretch_105 (by decide) (fun c_105 => ?_) (fun c_105 => absurd c_105 (by decide))
      refine lv_iload_n hx hb d_M_stretch_115 rfl (lv_at hl 4 rfl) ?_
      refine lv_bipush (v := 51) hx hb d_M_stretch_116 (by decide) ?_
      refine lv_icmp_eq (tgt := 133) hx hb d_M_stretch_118 (by decide) (fun c_118 => absurd c_118 (by rw [c_16]; decide)) (fun c_118 => ?_)
      refine lv_iload_n hx hb d_M_stretch_121 rfl (lv_at hl 4 rfl) ?_
      refine lv_bipush (v := 54) hx hb d_M_stretch_122 (by decide) ?_
      refine lv_icmp_eq (tgt := 133) hx hb d_M_stretch_124 (by decide) (fun c_124 => absurd c_124 (by rw [c_16]; decide)) (fun c_124 => ?_)
      refine lv_iload_n hx hb d_M_stretch_127 rfl (lv_at hl 4 rfl) ?_
      refine lv_bipush (v := 70) hx hb d_M_stretch_128 (by decide) ?_
      refine lv_icmp_ne (tgt := 140) hx hb d_M_stretch_130 (by decide) (fun c_130 => ?_) (fun c_130 => absurd c_130 (by rw [c_16]; decide))
      refine lv_iload_n hx hb d_M_stretch_140 rfl (lv_at hl 4 rfl) ?_
      refine lv_bipush (v := 51) hx hb d_M_stretch_141 (by decide) ?_
      refine lv_icmp_eq (tgt := 158) hx hb d_M_stretch_143 (by decide) (fun c_143 => absurd c_143 (by rw [c_16]; decide)) (fun c_143 => ?_)
      refine lv_iload_n hx hb d_M_stretch_146 rfl (lv_at hl 4 rfl) ?_
      refine lv_bipush (v := 64) hx hb d_M_stretch_147 (by decide) ?_
      refine lv_icmp_eq (tgt := 158) hx hb d_M_stretch_149 (by decide) (fun c_149 => absurd c_149 (by rw [c_16]; decide)) (fun c_149 => ?_)
      refine lv_iload_n hx hb d_M_stretch_152 rfl (lv_at hl 4 rfl) ?_
      refine lv_bipush (v := 69) hx hb d_M_stretch_153 (by decide) ?_
      refine lv_icmp_ne (tgt := 165) hx hb d_M_stretch_155 (by decide) (fun c_155 => ?_) (fun c_155 => absurd c_155 (by rw [c_16]; decide))
      refine lv_iload_n hx hb d_M_stretch_165 rfl (lv_at hl 4 rfl) ?_
      refine lv_bipush (v := 53) hx hb d_M_stretch_166 (by decide) ?_
      refine lv_icmp_eq (tgt := 177) hx hb d_M_stretch_168 (by decide) (fun c_168 => absurd c_168 (by rw [c_16]; decide)) (fun c_168 => ?_)
      refine lv_iload_n hx hb d_M_stretch_171 rfl (lv_at hl 4 rfl) ?_
      refine lv_bipush (v := 72) hx hb d_M_stretch_172 (by decide) ?_
      refine lv_icmp_ne (tgt := 184) hx hb d_M_stretch_174 (by decide) (fun c_174 => ?_) (fun c_174 => absurd c_174 (by rw [c_16]; decide))
      refine lv_iload_n hx hb d_M_stretch_184 rfl (lv_at hl 4 rfl) ?_
      refine lv_bipush (v := 55) hx hb d_M_stretch_185 (by decide) ?_
      refine lv_icmp_ne (tgt := 197) hx hb d_M_stretch_187 (by decide) (fun c_187 => ?_) (fun c_187 => absurd c_187 (by rw [c_16]; decide))
      refine lv_iload_n hx hb d_M_stretch_197 rfl (lv_at hl 4 rfl) ?_
      refine lv_bipush (v := 65) hx hb d_M_stretch_198 (by decide) ?_
      refine lv_icmp_eq (tgt := 209) hx hb d_M_stretch_200 (by decide) (fun c_200 => absurd c_200 (by rw [c_16]; decide)) (fun c_200 => ?_)
      refine lv_iload_n hx hb d_M_stretch_203 rfl (lv_at hl 4 rfl) ?_
      refine lv_bipush (v := 66) hx hb d_M_stretch_204 (by decide) ?_
      refine lv_icmp_ne (tgt := 216) hx hb d_M_stretch_206 (by decide) (fun c_206 => ?_) (fun c_206 => absurd c_206 (by rw [c_16]; decide))
      refine lv_iload_n hx hb d_M_stretch_216 rfl (lv_at hl 4 rfl) ?_
      refine lv_bipush (v := 51) hx hb d_M_stretch_217 (by decide) ?_
      refine lv_icmp_eq (tgt := 234) hx hb d_M_stretch_219 (by decide) (fun c_219 => absurd c_219 (by rw [c_16]; decide)) (fun c_219 => ?_)
      refine lv_iload_n hx hb d_M_stretch_222 rfl (lv_at hl 4 rfl) ?_
      refine lv_bipush (v := 69) hx hb d_M_stretch_223 (by decide) ?_
      refine lv_icmp_eq (tgt := 234) hx hb d_M_stretch_225 (by decide) (fun c_225 => absurd c_225 (by rw [c_16]; decide)) (fun c_225 => ?_)
      refine lv_iload_n hx hb d_M_stretch_228 rfl (lv_at hl 4 rfl) ?_
      refine lv_bipush (v := 72) hx hb d_M_stretch_229 (by decide) ?_
      refine lv_icmp_ne (tgt := 241) hx hb d_M_stretch_231 (by decide) (fun c_231 => ?_) (fun c_231 => absurd c_231 (by rw [c_16]; decide))
      refine lv_aload_n hx hb d_M_stretch_241 rfl (lv_at hl 3 rfl) ?_
      refine lv_iload_n hx hb d_M_stretch_242 rfl (lv_at hl 4 rfl) ?_
      refine roSi (As := [.int x0]) (rest := [.ref b_x]) ⟨hx, hb, hml, hown, hts⟩ (mc_StepMachineModel_longKind l D tc tb z0 x0) (va_cwS 1 hts (goodS a_827 a_828 a_10 a_829) rfl rfl rfl hs_M_longKind ⟨Nat.le_of_ble_eq_true rfl, Nat.le_of_ble_eq_true rfl⟩) (hP.sub [] rfl) hK (hB.kept hS hZ) rfl hl.1 rfl (Nat.le_of_ble_eq_true rfl) d_M_stretch_243 ⟨Nat.zero_le _, Nat.zero_le _⟩ ?_
      refine roVi (As := [.int (mF_StepMachineModel_longKind x0)]) (rest := []) ⟨hx, hb, hml, hown, hts⟩ (mc_StepMachineModel_put l D tc tb z0 b_x b_row b_part b_mem b_mrk b_sf b_ss b_sr b_h b_r b_in b_out b_k m_on m_hc m_pc m_giv m_tak m_put m_st m_cu m_va m_sp m_un m_kc m_kn m_by m_kd m_tg m_ju (upd m_part (1 : Int32).toNatClampNeg (m_part (0 : Int32).toNatClampNeg)) (mF_StepMachineModel_longKind x0) (lk_rng _)) (cwV 1 hts (goodV a_830 a_831 a_934 a_10 a_832) rfl rfl rfl hv_M_put ⟨Nat.le_of_ble_eq_true rfl, Nat.le_of_ble_eq_true rfl⟩) (hP.sub [0, 1, 2] rfl) hK (hB.kept hS hZ) rfl rfl rfl hl.1 rfl (Nat.le_of_ble_eq_true rfl) d_M_stretch_246 ⟨Nat.zero_le _, Nat.zero_le _⟩ ?_
      exact W.iret (v := (mF_StepMachineModel_put (upd m_part (1 : Int32).toNatClampNeg (m_part (0 : Int32).toNatClampNeg)) (mF_StepMachineModel_longKind x0))) hx hb hr (fun t ht hW => ⟨⟨_, (upd m_part (1 : Int32).toNatClampNeg (m_part (0 : Int32).toNatClampNeg)), rfl, by rw [mF_StepMachineModel_stretch, if_neg c_10, if_pos c_16], by rw [ht]; exact hP, va_K.moved hW.alike hK, hD⟩, hS.F ht⟩) hS.2.2 d_M_stretch_249
    · skip
      refine lv_iload_n hx hb d_M_stretch_19 rfl (lv_at hl 2 rfl) ?_
      refine lv_bipush (v := 58) hx hb d_M_stretch_20 (by decide) ?_
      refine lv_icmp_eq (tgt := 55) hx hb d_M_stretch_22 (by decide) (fun c_22 => ?_) (fun c_22 => ?_)
      · skip
        refine lv_iconst (v := 1) hx hb d_M_stretch_55 (by decide) ?_
        refine lv_goto (tgt := 60) hx hb d_M_stretch_56 (by decide) ?_
        refine lv_istore_n (lv' := [(3, .int 1), (2, .int (m_part (0 : Int32).toNatClampNeg)), (0, .ref b_x), (1, .int x0)]) hx hb d_M_stretch_60 rfl hl (by decide) rfl (fun ls hl => ?_)
        refine lv_iload_n hx hb d_M_stretch_61 rfl (lv_at hl 3 rfl) ?_
        refine lv_bipush (v := 48) hx hb d_M_stretch_62 (by decide) ?_
        refine lv_icmp_eq (tgt := 85) hx hb d_M_stretch_64 (by decide) (fun c_64 => absurd c_64 (by rw [c_22]; decide)) (fun c_64 => ?_)
        refine lv_iload_n hx hb d_M_stretch_67 rfl (lv_at hl 3 rfl) ?_
        refine lv_bipush (v := 55) hx hb d_M_stretch_68 (by decide) ?_
        refine lv_icmp_eq (tgt := 85) hx hb d_M_stretch_70 (by decide) (fun c_70 => absurd c_70 (by rw [c_22]; decide)) (fun c_70 => ?_)
        refine lv_iload_n hx hb d_M_stretch_73 rfl (lv_at hl 3 rfl) ?_
        refine lv_bipush (v := 68) hx hb d_M_stretch_74 (by decide) ?_
        refine lv_icmp_eq (tgt := 85) hx hb d_M_stretch_76 (by decide) (fun c_76 => absurd c_76 (by rw [c_22]; decide)) (fun c_76 => ?_)
        refine lv_iload_n hx hb d_M_stretch_79 rfl (lv_at hl 3 rfl) ?_
        refine lv_bipush (v := 74) hx hb d_M_stretch_80 (by decide) ?_
        refine lv_icmp_ne (tgt := 89) hx hb d_M_stretch_82 (by decide) (fun c_82 => ?_) (fun c_82 => absurd c_82 (by rw [c_22]; decide))
        refine lv_iconst (v := 0) hx hb d_M_stretch_89 (by decide) ?_
        refine lv_istore (lv' := [(4, .int 0), (3, .int 1), (2, .int (m_part (0 : Int32).toNatClampNeg)), (0, .ref b_x), (1, .int x0)]) hx hb d_M_stretch_90 hl (by decide) rfl (fun ls hl => ?_)
        refine lv_iload_n hx hb d_M_stretch_92 rfl (lv_at hl 1 rfl) ?_
        refine lv_if_eq (tgt := 103) hx hb d_M_stretch_93 (by decide) (fun c_93 => absurd c_93 (by decide)) (fun c_93 => ?_)
        refine lv_aload_n hx hb d_M_stretch_96 rfl (lv_at hl 3 rfl) ?_
        refine va_get (D := D) (ci := 9) (v := .ref b_part) (C := "StepMachineModel") (T := TX9) (N := 29) hx hb hts inU_9 hown hK hP 0 rfl rfl 1 (by decide) (hts _ a_634) (fun _ h9 => h9) rfl d_M_stretch_97 ?_
        refine lv_iconst (v := 1) hx hb d_M_stretch_100 (by decide) ?_
        refine lv_iload_n hx hb d_M_stretch_101 rfl (lv_at hl 2 rfl) ?_
        refine va_iast hx hb hK hP hD hS 2 0 rfl rfl (vp_in_nI (n := 1) (N := 4) (by decide) (by decide)) d_M_stretch_102 (fun H locs hP hD hS => ?_)
        have hP : va_P D vwCl [(b_x, .inr (9, [.ref b_row, .ref b_part, .ref b_mem, .ref b_mrk, .ref b_sf, .ref b_ss, .ref b_sr, .int m_on, .ref b_h, .int m_hc, .ref b_r, .int m_pc, .ref b_in, .int m_giv, .int m_tak, .ref b_out, .int m_put, .int m_st, .int m_cu, .int m_va, .int m_sp, .int m_un, .ref b_k, .int m_kc, .int m_kn, .int m_by, .int m_kd, .int m_tg, .int m_ju])), (b_row, .inl (tc 0, 2400, .inl rowT)), (b_part, .inl (tc 0, 4, .inl (upd m_part (1 : Int32).toNatClampNeg (m_part (0 : Int32).toNatClampNeg))))] H := hP
        have hD : va_D A [(b_x, .inr (9, [.ref b_row, .ref b_part, .ref b_mem, .ref b_mrk, .ref b_sf, .ref b_ss, .ref b_sr, .int m_on, .ref b_h, .int m_hc, .ref b_r, .int m_pc, .ref b_in, .int m_giv, .int m_tak, .ref b_out, .int m_put, .int m_st, .int m_cu, .int m_va, .int m_sp, .int m_un, .ref b_k, .int m_kc, .int m_kn, .int m_by, .int m_kd, .int m_tg, .int m_ju])), (b_row, .inl (tc 0, 2400, .inl rowT)), (b_part, .inl (tc 0, 4, .inl (upd m_part (1 : Int32).toNatClampNeg (m_part (0 : Int32).toNatClampNeg))))] := hD
        refine lv_iload hx hb d_M_stretch_103 (lv_at hl 0 rfl) ?_
        refine lv_if_eq (tgt := 115) hx hb d_M_stretch_105 (by decide) (fun c_105 => ?_) (fun c_105 => absurd c_105 (by decide))
        refine lv_iload_n hx hb d_M_stretch_115 rfl (lv_at hl 4 rfl) ?_
        refine lv_bipush (v := 51) hx hb d_M_stretch_116 (by decide) ?_
        refine lv_icmp_eq (tgt := 133) hx hb d_M_stretch_118 (by decide) (fun c_118 => absurd c_118 (by rw [c_22]; decide)) (fun c_118 => ?_)
        refine lv_iload_n hx hb d_M_stretch_121 rfl (lv_at hl 4 rfl) ?_
        refine lv_bipush (v := 54) hx hb d_M_stretch_122 (by decide) ?_
        refine lv_icmp_eq (tgt := 133) hx hb d_M_stretch_124 (by decide) (fun c_124 => absurd c_124 (by rw [c_22]; decide)) (fun c_124 => ?_)
        refine lv_iload_n hx hb d_M_stretch_127 rfl (lv_at hl 4 rfl) ?_
        refine lv_bipush (v := 70) hx hb d_M_stretch_128 (by decide) ?_
        refine lv_icmp_ne (tgt := 140) hx hb d_M_stretch_130 (by decide) (fun c_130 => ?_) (fun c_130 => absurd c_130 (by rw [c_22]; decide))
        refine lv_iload_n hx hb d_M_stretch_140 rfl (lv_at hl 4 rfl) ?_
        refine lv_bipush (v := 51) hx hb d_M_stretch_141 (by decide) ?_
        refine lv_icmp_eq (tgt := 158) hx hb d_M_stretch_143 (by decide) (fun c_143 => absurd c_143 (by rw [c_22]; decide)) (fun c_143 => ?_)
        refine lv_iload_n hx hb d_M_stretch_146 rfl (lv_at hl 4 rfl) ?_
        refine lv_bipush (v := 64) hx hb d_M_stretch_147 (by decide) ?_
        refine lv_icmp_eq (tgt := 158) hx hb d_M_stretch_149 (by decide) (fun c_149 => absurd c_149 (by rw [c_22]; decide)) (fun c_149 => ?_)
        refine lv_iload_n hx hb d_M_stretch_152 rfl (lv_at hl 4 rfl) ?_
        refine lv_bipush (v := 69) hx hb d_M_stretch_153 (by decide) ?_
        refine lv_icmp_ne (tgt := 165) hx hb d_M_stretch_155 (by decide) (fun c_155 => ?_) (fun c_155 => absurd c_155 (by rw [c_22]; decide))
        refine lv_iload_n hx hb d_M_stretch_165 rfl (lv_at hl 4 rfl) ?_
        refine lv_bipush (v := 53) hx hb d_M_stretch_166 (by decide) ?_
        refine lv_icmp_eq (tgt := 177) hx hb d_M_stretch_168 (by decide) (fun c_168 => absurd c_168 (by rw [c_22]; decide)) (fun c_168 => ?_)
        refine lv_iload_n hx hb d_M_stretch_171 rfl (lv_at hl 4 rfl) ?_
        refine lv_bipush (v := 72) hx hb d_M_stretch_172 (by decide) ?_
        refine lv_icmp_ne (tgt := 184) hx hb d_M_stretch_174 (by decide) (fun c_174 => ?_) (fun c_174 => absurd c_174 (by rw [c_22]; decide))
        refine lv_iload_n hx hb d_M_stretch_184 rfl (lv_at hl 4 rfl) ?_
        refine lv_bipush (v := 55) hx hb d_M_stretch_185 (by decide) ?_
        refine lv_icmp_ne (tgt := 197) hx hb d_M_stretch_187 (by decide) (fun c_187 => ?_) (fun c_187 => absurd c_187 (by rw [c_22]; decide))
        refine lv_iload_n hx hb d_M_stretch_197 rfl (lv_at hl 4 rfl) ?_
        refine lv_bipush (v := 65) hx hb d_M_stretch_198 (by decide) ?_
        refine lv_icmp_eq (tgt := 209) hx hb d_M_stretch_200 (by decide) (fun c_200 => absurd c_200 (by rw [c_22]; decide)) (fun c_200 => ?_)
        refine lv_iload_n hx hb d_M_stretch_203 rfl (lv_at hl 4 rfl) ?_
        refine lv_bipush (v := 66) hx hb d_M_stretch_204 (by decide) ?_
        refine lv_icmp_ne (tgt := 216) hx hb d_M_stretch_206 (by decide) (fun c_206 => ?_) (fun c_206 => absurd c_206 (by rw [c_22]; decide))
        refine lv_iload_n hx hb d_M_stretch_216 rfl (lv_at hl 4 rfl) ?_
        refine lv_bipush (v := 51) hx hb d_M_stretch_217 (by decide) ?_
        refine lv_icmp_eq (tgt := 234) hx hb d_M_stretch_219 (by decide) (fun c_219 => absurd c_219 (by rw [c_22]; decide)) (fun c_219 => ?_)
        refine lv_iload_n hx hb d_M_stretch_222 rfl (lv_at hl 4 rfl) ?_
        refine lv_bipush (v := 69) hx hb d_M_stretch_223 (by decide) ?_
        refine lv_icmp_eq (tgt := 234) hx hb d_M_stretch_225 (by decide) (fun c_225 => absurd c_225 (by rw [c_22]; decide)) (fun c_225 => ?_)
        refine lv_iload_n hx hb d_M_stretch_228 rfl (lv_at hl 4 rfl) ?_
        refine lv_bipush (v := 72) hx hb d_M_stretch_229 (by decide) ?_
        refine lv_icmp_ne (tgt := 241) hx hb d_M_stretch_231 (by decide) (fun c_231 => ?_) (fun c_231 => absurd c_231 (by rw [c_22]; decide))
        refine lv_aload_n hx hb d_M_stretch_241 rfl (lv_at hl 3 rfl) ?_
        refine lv_iload_n hx hb d_M_stretch_242 rfl (lv_at hl 4 rfl) ?_
        refine roSi (As := [.int x0]) (rest := [.ref b_x]) ⟨hx, hb, hml, hown, hts⟩ (mc_StepMachineModel_longKind l D tc tb z0 x0) (va_cwS 1 hts (goodS a_827 a_828 a_10 a_829) rfl rfl rfl hs_M_longKind ⟨Nat.le_of_ble_eq_true rfl, Nat.le_of_ble_eq_true rfl⟩) (hP.sub [] rfl) hK (hB.kept hS hZ) rfl hl.1 rfl (Nat.le_of_ble_eq_true rfl) d_M_stretch_243 ⟨Nat.zero_le _, Nat.zero_le _⟩ ?_
        refine roVi (As := [.int (mF_StepMachineModel_longKind x0)]) (rest := []) ⟨hx, hb, hml, hown, hts⟩ (mc_StepMachineModel_put l D tc tb z0 b_x b_row b_part b_mem b_mrk b_sf b_ss b_sr b_h b_r b_in b_out b_k m_on m_hc m_pc m_giv m_tak m_put m_st m_cu m_va m_sp m_un m_kc m_kn m_by m_kd m_tg m_ju (upd m_part (1 : Int32).toNatClampNeg (m_part (0 : Int32).toNatClampNeg)) (mF_StepMachineModel_longKind x0) (lk_rng _)) (cwV 1 hts (goodV a_830 a_831 a_934 a_10 a_832) rfl rfl rfl hv_M_put ⟨Nat.le_of_ble_eq_true rfl, Nat.le_of_ble_eq_true rfl⟩) (hP.sub [0, 1, 2] rfl) hK (hB.kept hS hZ) rfl rfl rfl hl.1 rfl (Nat.le_of_ble_eq_true rfl) d_M_stretch_246 ⟨Nat.zero_le _, Nat.zero_le _⟩ ?_
        exact W.iret (v := (mF_StepMachineModel_put (upd m_part (1 : Int32).toNatClampNeg (m_part (0 : Int32).toNatClampNeg)) (mF_StepMachineModel_longKind x0))) hx hb hr (fun t ht hW => ⟨⟨_, (upd m_part (1 : Int32).toNatClampNeg (m_part (0 : Int32).toNatClampNeg)), rfl, by rw [mF_StepMachineModel_stretch, if_neg c_10, if_neg c_16, if_pos c_22], by rw [ht]; exact hP, va_K.moved hW.alike hK, hD⟩, hS.F ht⟩) hS.2.2 d_M_stretch_249
      · skip
        refine lv_iload_n hx hb d_M_stretch_25 rfl (lv_at hl 2 rfl) ?_
        refine lv_bipush (v := 59) hx hb d_M_stretch_26 (by decide) ?_
        refine lv_icmp_eq (tgt := 55) hx hb d_M_stretch_28 (by decide) (fun c_28 => ?_) (fun c_28 => ?_)
        · skip
          refine lv_iconst (v := 1) hx hb d_M_stretch_55 (by decide) ?_
          refine lv_goto (tgt := 60) hx hb d_M_stretch_56 (by decide) ?_
          refine lv_istore_n (lv' := [(3, .int 1), (2, .int (m_part (0 : Int32).toNatClampNeg)), (0, .ref b_x), (1, .int x0)]) hx hb d_M_stretch_60 rfl hl (by decide) rfl (fun ls hl => ?_)
          refine lv_iload_n hx hb d_M_stretch_61 rfl (lv_at hl 3 rfl) ?_
          refine lv_bipush (v := 48) hx hb d_M_stretch_62 (by decide) ?_
          refine lv_icmp_eq (tgt := 85) hx hb d_M_stretch_64 (by decide) (fun c_64 => absurd c_64 (by rw [c_28]; decide)) (fun c_64 => ?_)
          refine lv_iload_n hx hb d_M_stretch_67 rfl (lv_at hl 3 rfl) ?_
          refine lv_bipush (v := 55) hx hb d_M_stretch_68 (by decide) ?_
          refine lv_icmp_eq (tgt := 85) hx hb d_M_stretch_70 (by decide) (fun c_70 => absurd c_70 (by rw [c_28]; decide)) (fun c_70 => ?_)
          refine lv_iload_n hx hb d_M_stretch_73 rfl (lv_at hl 3 rfl) ?_
          refine lv_bipush (v := 68) hx hb d_M_stretch_74 (by decide) ?_
          refine lv_icmp_eq (tgt := 85) hx hb d_M_stretch_76 (by decide) (fun c_76 => absurd c_76 (by rw [c_28]; decide)) (fun c_76 => ?_)
          refine lv_iload_n hx hb d_M_stretch_79 rfl (lv_at hl 3 rfl) ?_
          refine lv_bipush (v := 74) hx hb d_M_stretch_80 (by decide) ?_
          refine lv_icmp_ne (tgt := 89) hx hb d_M_stretch_82 (by decide) (fun c_82 => ?_) (fun c_82 => absurd c_82 (by rw [c_28]; decide))
          refine lv_iconst (v := 0) hx hb d_M_stretch_89 (by decide) ?_
          refine lv_istore (lv' := [(4, .int 0), (3, .int 1), (2, .int (m_part (0 : Int32).toNatClampNeg)), (0, .ref b_x), (1, .int x0)]) hx hb d_M_stretch_90 hl (by decide) rfl (fun ls hl => ?_)
          refine lv_iload_n hx hb d_M_stretch_92 rfl (lv_at hl 1 rfl) ?_
          refine lv_if_eq (tgt := 103) hx hb d_M_stretch_93 (by decide) (fun c_93 => absurd c_93 (by decide)) (fun c_93 => ?_)
          refine lv_aload_n hx hb d_M_stretch_96 rfl (lv_at hl 3 rfl) ?_
          refine va_get (D := D) (ci := 9) (v := .ref b_part) (C := "StepMachineModel") (T := TX9) (N := 29) hx hb hts inU_9 hown hK hP 0 rfl rfl 1 (by decide) (hts _ a_634) (fun _ h9 => h9) rfl d_M_stretch_97 ?_
          refine lv_iconst (v := 1) hx hb d_M_stretch_100 (by decide) ?_
          refine lv_iload_n hx hb d_M_stretch_101 rfl (lv_at hl 2 rfl) ?_
          refine va_iast hx hb hK hP hD hS 2 0 rfl rfl (vp_in_nI (n := 1) (N := 4) (by decide) (by decide)) d_M_stretch_102 (fun H locs hP hD hS => ?_)
          have hP : va_P D vwCl [(b_x, .inr (9, [.ref b_row, .ref b_part, .ref b_mem, .ref b_mrk, .ref b_sf, .ref b_ss, .ref b_sr, .int m_on, .ref b_h, .int m_hc, .ref b_r, .int m_pc, .ref b_in, .int m_giv, .int m_tak, .ref b_out, .int m_put, .int m_st, .int m_cu, .int m_va, .int m_sp, .int m_un, .ref b_k, .int m_kc, .int m_kn, .int m_by, .int m_kd, .int m_tg, .int m_ju])), (b_row, .inl (tc 0, 2400, .inl rowT)), (b_part, .inl (tc 0, 4, .inl (upd m_part (1 : Int32).toNatClampNeg (m_part (0 : Int32).toNatClampNeg))))] H := hP
          have hD : va_D A [(b_x, .inr (9, [.ref b_row, .ref b_part, .ref b_mem, .ref b_mrk, .ref b_sf, .ref b_ss, .ref b_sr, .int m_on, .ref b_h, .int m_hc, .ref b_r, .int m_pc, .ref b_in, .int m_giv, .int m_tak, .ref b_out, .int m_put, .int m_st, .int m_cu, .int m_va, .int m_sp, .int m_un, .ref b_k, .int m_kc, .int m_kn, .int m_by, .int m_kd, .int m_tg, .int m_ju])), (b_row, .inl (tc 0, 2400, .inl rowT)), (b_part, .inl (tc 0, 4, .inl (upd m_part (1 : Int32).toNatClampNeg (m_part (0 : Int32).toNatClampNeg))))] := hD
          refine lv_iload hx hb d_M_stretch_103 (lv_at hl 0 rfl) ?_
          refine lv_if_eq (tgt := 115) hx hb d_M_stretch_105 (by decide) (fun c_105 => ?_) (fun c_105 => absurd c_105 (by decide))
          refine lv_iload_n hx hb d_M_stretch_115 rfl (lv_at hl 4 rfl) ?_
          refine lv_bipush (v := 51) hx hb d_M_stretch_116 (by decide) ?_
          refine lv_icmp_eq (tgt := 133) hx hb d_M_stretch_118 (by decide) (fun c_118 => absurd c_118 (by rw [c_28]; decide)) (fun c_118 => ?_)
          refine lv_iload_n hx hb d_M_stretch_121 rfl (lv_at hl 4 rfl) ?_
          refine lv_bipush (v := 54) hx hb d_M_stretch_122 (by decide) ?_
          refine lv_icmp_eq (tgt := 133) hx hb d_M_stretch_124 (by decide) (fun c_124 => absurd c_124 (by rw [c_28]; decide)) (fun c_124 => ?_)
          refine lv_iload_n hx hb d_M_stretch_127 rfl (lv_at hl 4 rfl) ?_
          refine lv_bipush (v := 70) hx hb d_M_stretch_128 (by decide) ?_
          refine lv_icmp_ne (tgt := 140) hx hb d_M_stretch_130 (by decide) (fun c_130 => ?_) (fun c_130 => absurd c_130 (by rw [c_28]; decide))
          refine lv_iload_n hx hb d_M_stretch_140 rfl (lv_at hl 4 rfl) ?_
          refine lv_bipush (v := 51) hx hb d_M_stretch_141 (by decide) ?_
          refine lv_icmp_eq (tgt := 158) hx hb d_M_stretch_143 (by decide) (fun c_143 => absurd c_143 (by rw [c_28]; decide)) (fun c_143 => ?_)
          refine lv_iload_n hx hb d_M_stretch_146 rfl (lv_at hl 4 rfl) ?_
          refine lv_bipush (v := 64) hx hb d_M_stretch_147 (by decide) ?_
          refine lv_icmp_eq (tgt := 158) hx hb d_M_stretch_149 (by decide) (fun c_149 => absurd c_149 (by rw [c_28]; decide)) (fun c_149 => ?_)
          refine lv_iload_n hx hb d_M_stretch_152 rfl (lv_at hl 4 rfl) ?_
          refine lv_bipush (v := 69) hx hb d_M_stretch_153 (by decide) ?_
          refine lv_icmp_ne (tgt := 165) hx hb d_M_stretch_155 (by decide) (fun c_155 => ?_) (fun c_155 => absurd c_155 (by rw [c_28]; decide))
          refine lv_iload_n hx hb d_M_stretch_165 rfl (lv_at hl 4 rfl) ?_
          refine lv_bipush (v := 53) hx hb d_M_stretch_166 (by decide) ?_
          refine lv_icmp_eq (tgt := 177) hx hb d_M_stretch_168 (by decide) (fun c_168 => absurd c_168 (by rw [c_28]; decide)) (fun c_168 => ?_)
          refine lv_iload_n hx hb d_M_stretch_171 rfl (lv_at hl 4 rfl) ?_
          refine lv_bipush (v := 72) hx hb d_M_stretch_172 (by decide) ?_
          refine lv_icmp_ne (tgt := 184) hx hb d_M_stretch_174 (by decide) (fun c_174 => ?_) (fun c_174 => absurd c_174 (by rw [c_28]; decide))
          refine lv_iload_n hx hb d_M_stretch_184 rfl (lv_at hl 4 rfl) ?_
          refine lv_bipush (v := 55) hx hb d_M_stretch_185 (by decide) ?_
          refine lv_icmp_ne (tgt := 197) hx hb d_M_stretch_187 (by decide) (fun c_187 => ?_) (fun c_187 => absurd c_187 (by rw [c_28]; decide))
          refine lv_iload_n hx hb d_M_stretch_197 rfl (lv_at hl 4 rfl) ?_
          refine lv_bipush (v := 65) hx hb d_M_stretch_198 (by decide) ?_
          refine lv_icmp_eq (tgt := 209) hx hb d_M_stretch_200 (by decide) (fun c_200 => absurd c_200 (by rw [c_28]; decide)) (fun c_200 => ?_)
          refine lv_iload_n hx hb d_M_stretch_203 rfl (lv_at hl 4 rfl) ?_
          refine lv_bipush (v := 66) hx hb d_M_stretch_204 (by decide) ?_
          refine lv_icmp_ne (tgt := 216) hx hb d_M_stretch_206 (by decide) (fun c_206 => ?_) (fun c_206 => absurd c_206 (by rw [c_28]; decide))
          refine lv_iload_n hx hb d_M_stretch_216 rfl (lv_at hl 4 rfl) ?_
          refine lv_bipush (v := 51) hx hb d_M_stretch_217 (by decide) ?_
          refine lv_icmp_eq (tgt := 234) hx hb d_M_stretch_219 (by decide) (fun c_219 => absurd c_219 (by rw [c_28]; decide)) (fun c_219 => ?_)
          refine lv_iload_n hx hb d_M_stretch_222 rfl (lv_at hl 4 rfl) ?_
          refine lv_bipush (v := 69) hx hb d_M_stretch_223 (by decide) ?_
          refine lv_icmp_eq (tgt := 234) hx hb d_M_stretch_225 (by decide) (fun c_225 => absurd c_225 (by rw [c_28]; decide)) (fun c_225 => ?_)
          refine lv_iload_n hx hb d_M_stretch_228 rfl (lv_at hl 4 rfl) ?_
          refine lv_bipush (v := 72) hx hb d_M_stretch_229 (by decide) ?_
          refine lv_icmp_ne (tgt := 241) hx hb d_M_stretch_231 (by decide) (fun c_231 => ?_) (fun c_231 => absurd c_231 (by rw [c_28]; decide))
          refine lv_aload_n hx hb d_M_stretch_241 rfl (lv_at hl 3 rfl) ?_
          refine lv_iload_n hx hb d_M_stretch_242 rfl (lv_at hl 4 rfl) ?_
          refine roSi (As := [.int x0]) (rest := [.ref b_x]) ⟨hx, hb, hml, hown, hts⟩ (mc_StepMachineModel_longKind l D tc tb z0 x0) (va_cwS 1 hts (goodS a_827 a_828 a_10 a_829) rfl rfl rfl hs_M_longKind ⟨Nat.le_of_ble_eq_true rfl, Nat.le_of_ble_eq_true rfl⟩) (hP.sub [] rfl) hK (hB.kept hS hZ) rfl hl.1 rfl (Nat.le_of_ble_eq_true rfl) d_M_stretch_243 ⟨Nat.zero_le _, Nat.zero_le _⟩ ?_
          refine roVi (As := [.int (mF_StepMachineModel_longKind x0)]) (rest := []) ⟨hx, hb, hml, hown, hts⟩ (mc_StepMachineModel_put l D tc tb z0 b_x b_row b_part b_mem b_mrk b_sf b_ss b_sr b_h b_r b_in b_out b_k m_on m_hc m_pc m_giv m_tak m_put m_st m_cu m_va m_sp m_un m_kc m_kn m_by m_kd m_tg m_ju (upd m_part (1 : Int32).toNatClampNeg (m_part (0 : Int32).toNatClampNeg)) (mF_StepMachineModel_longKind x0) (lk_rng _)) (cwV 1 hts (goodV a_830 a_831 a_934 a_10 a_832) rfl rfl rfl hv_M_put ⟨Nat.le_of_ble_eq_true rfl, Nat.le_of_ble_eq_true rfl⟩) (hP.sub [0, 1, 2] rfl) hK (hB.kept hS hZ) rfl rfl rfl hl.1 rfl (Nat.le_of_ble_eq_true rfl) d_M_stretch_246 ⟨Nat.zero_le _, Nat.zero_le _⟩ ?_
          exact W.iret (v := (mF_StepMachineModel_put (upd m_part (1 : Int32).toNatClampNeg (m_part (0 : Int32).toNatClampNeg)) (mF_StepMachineModel_longKind x0))) hx hb hr (fun t ht hW => ⟨⟨_, (upd m_part (1 : Int32).toNatClampNeg (m_part (0 : Int32).toNatClampNeg)), rfl, by rw [mF_StepMachineModel_stretch, if_neg c_10, if_neg c_16, if_neg c_22, if_pos c_28], by rw [ht]; exact hP, va_K.moved hW.alike hK, hD⟩, hS.F ht⟩) hS.2.2 d_M_stretch_249
        · skip
          refine lv_iload_n hx hb d_M_stretch_31 rfl (lv_at hl 2 rfl) ?_
          refine lv_bipush (v := 59) hx hb d_M_stretch_32 (by decide) ?_
          refine lv_icmp_le (tgt := 43) hx hb d_M_stretch_34 (by decide) (fun c_34 => ?_) (fun c_34 => ?_)
          · skip
            refine lv_iload_n hx hb d_M_stretch_43 rfl (lv_at hl 2 rfl) ?_
            refine lv_bipush (v := 67) hx hb d_M_stretch_44 (by decide) ?_
            refine lv_icmp_eq (tgt := 55) hx hb d_M_stretch_46 (by decide) (fun c_46 => ?_) (fun c_46 => ?_)
            · skip
              refine lv_iconst (v := 1) hx hb d_M_stretch_55 (by decide) ?_
              refine lv_goto (tgt := 60) hx hb d_M_stretch_56 (by decide) ?_
              refine lv_istore_n (lv' := [(3, .int 1), (2, .int (m_part (0 : Int32).toNatClampNeg)), (0, .ref b_x), (1, .int x0)]) hx hb d_M_stretch_60 rfl hl (by decide) rfl (fun ls hl => ?_)
              refine lv_iload_n hx hb d_M_stretch_61 rfl (lv_at hl 3 rfl) ?_
              refine lv_bipush (v := 48) hx hb d_M_stretch_62 (by decide) ?_
              refine lv_icmp_eq (tgt := 85) hx hb d_M_stretch_64 (by decide) (fun c_64 => absurd c_64 (by rw [c_46]; decide)) (fun c_64 => ?_)
              refine lv_iload_n hx hb d_M_stretch_67 rfl (lv_at hl 3 rfl) ?_
              refine lv_bipush (v := 55) hx hb d_M_stretch_68 (by decide) ?_
              refine lv_icmp_eq (tgt := 85) hx hb d_M_stretch_70 (by decide) (fun c_70 => absurd c_70 (by rw [c_46]; decide)) (fun c_70 => ?_)
              refine lv_iload_n hx hb d_M_stretch_73 rfl (lv_at hl 3 rfl) ?_
              refine lv_bipush (v := 68) hx hb d_M_stretch_74 (by decide) ?_
              refine lv_icmp_eq (tgt := 85) hx hb d_M_stretch_76 (by decide) (fun c_76 => absurd c_76 (by rw [c_46]; decide)) (fun c_76 => ?_)
              refine lv_iload_n hx hb d_M_stretch_79 rfl (lv_at hl 3 rfl) ?_
              refine lv_bipush (v := 74) hx hb d_M_stretch_80 (by decide) ?_
              refine lv_icmp_ne (tgt := 89) hx hb d_M_stretch_82 (by decide) (fun c_82 => ?_) (fun c_82 => absurd c_82 (by rw [c_46]; decide))
              refine lv_iconst (v := 0) hx hb d_M_stretch_89 (by decide) ?_
              refine lv_istore (lv' := [(4, .int 0), (3, .int 1), (2, .int (m_part (0 : Int32).toNatClampNeg)), (0, .ref b_x), (1, .int x0)]) hx hb d_M_stretch_90 hl (by decide) rfl (fun ls hl => ?_)
              refine lv_iload_n hx hb d_M_stretch_92 rfl (lv_at hl 1 rfl) ?_
              refine lv_if_eq (tgt := 103) hx hb d_M_stretch_93 (by decide) (fun c_93 => absurd c_93 (by decide)) (fun c_93 => ?_)
              refine lv_aload_n hx hb d_M_stretch_96 rfl (lv_at hl 3 rfl) ?_
              refine va_get (D := D) (ci := 9) (v := .ref b_part) (C := "StepMachineModel") (T := TX9) (N := 29) hx hb hts inU_9 hown hK hP 0 rfl rfl 1 (by decide) (hts _ a_634) (fun _ h9 => h9) rfl d_M_stretch_97 ?_
              refine lv_iconst (v := 1) hx hb d_M_stretch_100 (by decide) ?_
              refine lv_iload_n hx hb d_M_stretch_101 rfl (lv_at hl 2 rfl) ?_
              refine va_iast hx hb hK hP hD hS 2 0 rfl rfl (vp_in_nI (n := 1) (N := 4) (by decide) (by decide)) d_M_stretch_102 (fun H locs hP hD hS => ?_)
              have hP : va_P D vwCl [(b_x, .inr (9, [.ref b_row, .ref b_part, .ref b_mem, .ref b_mrk, .ref b_sf, .ref b_ss, .ref b_sr, .int m_on, .ref b_h, .int m_hc, .ref b_r, .int m_pc, .ref b_in, .int m_giv, .int m_tak, .ref b_out, .int m_put, .int m_st, .int m_cu, .int m_va, .int m_sp, .int m_un, .ref b_k, .int m_kc, .int m_kn, .int m_by, .int m_kd, .int m_tg, .int m_ju])), (b_row, .inl (tc 0, 2400, .inl rowT)), (b_part, .inl (tc 0, 4, .inl (upd m_part (1 : Int32).toNatClampNeg (m_part (0 : Int32).toNatClampNeg))))] H := hP
              have hD : va_D A [(b_x, .inr (9, [.ref b_row, .ref b_part, .ref b_mem, .ref b_mrk, .ref b_sf, .ref b_ss, .ref b_sr, .int m_on, .ref b_h, .int m_hc, .ref b_r, .int m_pc, .ref b_in, .int m_giv, .int m_tak, .ref b_out, .int m_put, .int m_st, .int m_cu, .int m_va, .int m_sp, .int m_un, .ref b_k, .int m_kc, .int m_kn, .int m_by, .int m_kd, .int m_tg, .int m_ju])), (b_row, .inl (tc 0, 2400, .inl rowT)), (b_part, .inl (tc 0, 4, .inl (upd m_part (1 : Int32).toNatClampNeg (m_part (0 : Int32).toNatClampNeg))))] := hD
              refine lv_iload hx hb d_M_stretch_103 (lv_at hl 0 rfl) ?_
              refine lv_if_eq (tgt := 115) hx hb d_M_stretch_105 (by decide) (fun c_105 => ?_) (fun c_105 => absurd c_105 (by decide))
              refine lv_iload_n hx hb d_M_stretch_115 rfl (lv_at hl 4 rfl) ?_
              refine lv_bipush (v := 51) hx hb d_M_stretch_116 (by decide) ?_
              refine lv_icmp_eq (tgt := 133) hx hb d_M_stretch_118 (by decide) (fun c_118 => absurd c_118 (by rw [c_46]; decide)) (fun c_118 => ?_)
              refine lv_iload_n hx hb d_M_stretch_121 rfl (lv_at hl 4 rfl) ?_
              refine lv_bipush (v := 54) hx hb d_M_stretch_122 (by decide) ?_
              refine lv_icmp_eq (tgt := 133) hx hb d_M_stretch_124 (by decide) (fun c_124 => absurd c_124 (by rw [c_46]; decide)) (fun c_124 => ?_)
              refine lv_iload_n hx hb d_M_stretch_127 rfl (lv_at hl 4 rfl) ?_
              refine lv_bipush (v := 70) hx hb d_M_stretch_128 (by decide) ?_
              refine lv_icmp_ne (tgt := 140) hx hb d_M_stretch_130 (by decide) (fun c_130 => ?_) (fun c_130 => absurd c_130 (by rw [c_46]; decide))
              refine lv_iload_n hx hb d_M_stretch_140 rfl (lv_at hl 4 rfl) ?_
              refine lv_bipush (v := 51) hx hb d_M_stretch_141 (by decide) ?_
              refine lv_icmp_eq (tgt := 158) hx hb d_M_stretch_143 (by decide) (fun c_143 => absurd c_143 (by rw [c_46]; decide)) (fun c_143 => ?_)
              refine lv_iload_n hx hb d_M_stretch_146 rfl (lv_at hl 4 rfl) ?_
              refine lv_bipush (v := 64) hx hb d_M_stretch_147 (by decide) ?_
              refine lv_icmp_eq (tgt := 158) hx hb d_M_stretch_149 (by decide) (fun c_149 => absurd c_149 (by rw [c_46]; decide)) (fun c_149 => ?_)
              refine lv_iload_n hx hb d_M_stretch_152 rfl (lv_at hl 4 rfl) ?_
              refine lv_bipush (v := 69) hx hb d_M_stretch_153 (by decide) ?_
              refine lv_icmp_ne (tgt := 165) hx hb d_M_stretch_155 (by decide) (fun c_155 => ?_) (fun c_155 => absurd c_155 (by rw [c_46]; decide))
              refine lv_iload_n hx hb d_M_stretch_165 rfl (lv_at hl 4 rfl) ?_
              refine lv_bipush (v := 53) hx hb d_M_stretch_166 (by decide) ?_
              refine lv_icmp_eq (tgt := 177) hx hb d_M_stretch_168 (by decide) (fun c_168 => absurd c_168 (by rw [c_46]; decide)) (fun c_168 => ?_)
              refine lv_iload_n hx hb d_M_stretch_171 rfl (lv_at hl 4 rfl) ?_
              refine lv_bipush (v := 72) hx hb d_M_stretch_172 (by decide) ?_
              refine lv_icmp_ne (tgt := 184) hx hb d_M_stretch_174 (by decide) (fun c_174 => ?_) (fun c_174 => absurd c_174 (by rw [c_46]; decide))
              refine lv_iload_n hx hb d_M_stretch_184 rfl (lv_at hl 4 rfl) ?_
              refine lv_bipush (v := 55) hx hb d_M_stretch_185 (by decide) ?_
              refine lv_icmp_ne (tgt := 197) hx hb d_M_stretch_187 (by decide) (fun c_187 => ?_) (fun c_187 => absurd c_187 (by rw [c_46]; decide))
              refine lv_iload_n hx hb d_M_stretch_197 rfl (lv_at hl 4 rfl) ?_
              refine lv_bipush (v := 65) hx hb d_M_stretch_198 (by decide) ?_
              refine lv_icmp_eq (tgt := 209) hx hb d_M_stretch_200 (by decide) (fun c_200 => absurd c_200 (by rw [c_46]; decide)) (fun c_200 => ?_)
              refine lv_iload_n hx hb d_M_stretch_203 rfl (lv_at hl 4 rfl) ?_
              refine lv_bipush (v := 66) hx hb d_M_stretch_204 (by decide) ?_
              refine lv_icmp_ne (tgt := 216) hx hb d_M_stretch_206 (by decide) (fun c_206 => ?_) (fun c_206 => absurd c_206 (by rw [c_46]; decide))
              refine lv_iload_n hx hb d_M_stretch_216 rfl (lv_at hl 4 rfl) ?_
              refine lv_bipush (v := 51) hx hb d_M_stretch_217 (by decide) ?_
              refine lv_icmp_eq (tgt := 234) hx hb d_M_stretch_219 (by decide) (fun c_219 => absurd c_219 (by rw [c_46]; decide)) (fun c_219 => ?_)
              refine lv_iload_n hx hb d_M_stretch_222 rfl (lv_at hl 4 rfl) ?_
              refine lv_bipush (v := 69) hx hb d_M_stretch_223 (by decide) ?_
              refine lv_icmp_eq (tgt := 234) hx hb d_M_stretch_225 (by decide) (fun c_225 => absurd c_225 (by rw [c_46]; decide)) (fun c_225 => ?_)
              refine lv_iload_n hx hb d_M_stretch_228 rfl (lv_at hl 4 rfl) ?_
              refine lv_bipush (v := 72) hx hb d_M_stretch_229 (by decide) ?_
              refine lv_icmp_ne (tgt := 241) hx hb d_M_stretch_231 (by decide) (fun c_231 => ?_) (fun c_231 => absurd c_231 (by rw [c_46]; decide))
              refine lv_aload_n hx hb d_M_stretch_241 rfl (lv_at hl 3 rfl) ?_
              refine lv_iload_n hx hb d_M_stretch_242 rfl (lv_at hl 4 rfl) ?_
              refine roSi (As := [.int x0]) (rest := [.ref b_x]) ⟨hx, hb, hml, hown, hts⟩ (mc_StepMachineModel_longKind l D tc tb z0 x0) (va_cwS 1 hts (goodS a_827 a_828 a_10 a_829) rfl rfl rfl hs_M_longKind ⟨Nat.le_of_ble_eq_true rfl, Nat.le_of_ble_eq_true rfl⟩) (hP.sub [] rfl) hK (hB.kept hS hZ) rfl hl.1 rfl (Nat.le_of_ble_eq_true rfl) d_M_stretch_243 ⟨Nat.zero_le _, Nat.zero_le _⟩ ?_
              refine roVi (As := [.int (mF_StepMachineModel_longKind x0)]) (rest := []) ⟨hx, hb, hml, hown, hts⟩ (mc_StepMachineModel_put l D tc tb z0 b_x b_row b_part b_mem b_mrk b_sf b_ss b_sr b_h b_r b_in b_out b_k m_on m_hc m_pc m_giv m_tak m_put m_st m_cu m_va m_sp m_un m_kc m_kn m_by m_kd m_tg m_ju (upd m_part (1 : Int32).toNatClampNeg (m_part (0 : Int32).toNatClampNeg)) (mF_StepMachineModel_longKind x0) (lk_rng _)) (cwV 1 hts (goodV a_830 a_831 a_934 a_10 a_832) rfl rfl rfl hv_M_put ⟨Nat.le_of_ble_eq_true rfl, Nat.le_of_ble_eq_true rfl⟩) (hP.sub [0, 1, 2] rfl) hK (hB.kept hS hZ) rfl rfl rfl hl.1 rfl (Nat.le_of_ble_eq_true rfl) d_M_stretch_246 ⟨Nat.zero_le _, Nat.zero_le _⟩ ?_
              exact W.iret (v := (mF_StepMachineModel_put (upd m_part (1 : Int32).toNatClampNeg (m_part (0 : Int32).toNatClampNeg)) (mF_StepMachineModel_longKind x0))) hx hb hr (fun t ht hW => ⟨⟨_, (upd m_part (1 : Int32).toNatClampNeg (m_part (0 : Int32).toNatClampNeg)), rfl, by rw [mF_StepMachineModel_stretch, if_neg c_10, if_neg c_16, if_neg c_22, if_neg c_28, if_pos c_34, if_pos c_46], by rw [ht]; exact hP, va_K.moved hW.alike hK, hD⟩, hS.F ht⟩) hS.2.2 d_M_stretch_249
            · skip
              refine lv_iload_n hx hb d_M_stretch_49 rfl (lv_at hl 2 rfl) ?_
              refine lv_bipush (v := 73) hx hb d_M_stretch_50 (by decide) ?_
              refine lv_icmp_ne (tgt := 59) hx hb d_M_stretch_52 (by decide) (fun c_52 => ?_) (fun c_52 => ?_)
              · skip
                refine lv_iconst (v := 0) hx hb d_M_stretch_59 (by decide) ?_
                refine lv_istore_n (lv' := [(3, .int 0), (2, .int (m_part (0 : Int32).toNatClampNeg)), (0, .ref b_x), (1, .int x0)]) hx hb d_M_stretch_60 rfl hl (by decide) rfl (fun ls hl => ?_)
                refine lv_iload_n hx hb d_M_stretch_61 rfl (lv_at hl 3 rfl) ?_
                refine lv_bipush (v := 48) hx hb d_M_stretch_62 (by decide) ?_
                refine lv_icmp_eq (tgt := 85) hx hb d_M_stretch_64 (by decide) (fun c_64 => ?_) (fun c_64 => ?_)
                · skip
                  refine lv_iconst (v := 1) hx hb d_M_stretch_85 (by decide) ?_
                  refine lv_goto (tgt := 90) hx hb d_M_stretch_86 (by decide) ?_
                  refine lv_istore (lv' := [(4, .int 1), (3, .int 0), (2, .int (m_part (0 : Int32).toNatClampNeg)), (0, .ref b_x), (1, .int x0)]) hx hb d_M_stretch_90 hl (by decide) rfl (fun ls hl => ?_)
                  refine lv_iload_n hx hb d_M_stretch_92 rfl (lv_at hl 1 rfl) ?_
                  refine lv_if_eq (tgt := 103) hx hb d_M_stretch_93 (by decide) (fun c_93 => ?_) (fun c_93 => absurd c_93 (by decide))
                  refine lv_iload hx hb d_M_stretch_103 (lv_at hl 0 rfl) ?_
                  refine lv_if_eq (tgt := 115) hx hb d_M_stretch_105 (by decide) (fun c_105 => absurd c_105 (by decide)) (fun c_105 => ?_)
                  refine lv_aload_n hx hb d_M_stretch_108 rfl (lv_at hl 3 rfl) ?_
                  refine va_get (D := D) (ci := 9) (v := .ref b_part) (C := "StepMachineModel") (T := TX9) (N := 29) hx hb hts inU_9 hown hK hP 0 rfl rfl 1 (by decide) (hts _ a_634) (fun _ h9 => h9) rfl d_M_stretch_109 ?_
                  refine lv_iconst (v := 1) hx hb d_M_stretch_112 (by decide) ?_
                  refine lv_iconst (v := 2) hx hb d_M_stretch_113 (by decide) ?_
                  refine va_iast hx hb hK hP hD hS 2 0 rfl rfl (vp_in_nI (n := 1) (N := 4) (by decide) (by decide)) d_M_stretch_114 (fun H locs hP hD hS => ?_)
                  have hP : va_P D vwCl [(b_x, .inr (9, [.ref b_row, .ref b_part, .ref b_mem, .ref b_mrk, .ref b_sf, .ref b_ss, .ref b_sr, .int m_on, .ref b_h, .int m_hc, .ref b_r, .int m_pc, .ref b_in, .int m_giv, .int m_tak, .ref b_out, .int m_put, .int m_st, .int m_cu, .int m_va, .int m_sp, .int m_un, .ref b_k, .int m_kc, .int m_kn, .int m_by, .int m_kd, .int m_tg, .int m_ju])), (b_row, .inl (tc 0, 2400, .inl rowT)), (b_part, .inl (tc 0, 4, .inl (upd m_part (1 : Int32).toNatClampNeg 2)))] H := hP
                  have hD : va_D A [(b_x, .inr (9, [.ref b_row, .ref b_part, .ref b_mem, .ref b_mrk, .ref b_sf, .ref b_ss, .ref b_sr, .int m_on, .ref b_h, .int m_hc, .ref b_r, .int m_pc, .ref b_in, .int m_giv, .int m_tak, .ref b_out, .int m_put, .int m_st, .int m_cu, .int m_va, .int m_sp, .int m_un, .ref b_k, .int m_kc, .int m_kn, .int m_by, .int m_kd, .int m_tg, .int m_ju])), (b_row, .inl (tc 0, 2400, .inl rowT)), (b_part, .inl (tc 0, 4, .inl (upd m_part (1 : Int32).toNatClampNeg 2)))] := hD
                  refine lv_iload_n hx hb d_M_stretch_115 rfl (lv_at hl 4 rfl) ?_
                  refine lv_bipush (v := 51) hx hb d_M_stretch_116 (by decide) ?_
                  refine lv_icmp_eq (tgt := 133) hx hb d_M_stretch_118 (by decide) (fun c_118 => absurd c_118 (by rw [c_64]; decide)) (fun c_118 => ?_)
                  refine lv_iload_n hx hb d_M_stretch_121 rfl (lv_at hl 4 rfl) ?_
                  refine lv_bipush (v := 54) hx hb d_M_stretch_122 (by decide) ?_
                  refine lv_icmp_eq (tgt := 133) hx hb d_M_stretch_124 (by decide) (fun c_124 => absurd c_124 (by rw [c_64]; decide)) (fun c_124 => ?_)
                  refine lv_iload_n hx hb d_M_stretch_127 rfl (lv_at hl 4 rfl) ?_
                  refine lv_bipush (v := 70) hx hb d_M_stretch_128 (by decide) ?_
                  refine lv_icmp_ne (tgt := 140) hx hb d_M_stretch_130 (by decide) (fun c_130 => ?_) (fun c_130 => absurd c_130 (by rw [c_64]; decide))
                  refine lv_iload_n hx hb d_M_stretch_140 rfl (lv_at hl 4 rfl) ?_
                  refine lv_bipush (v := 51) hx hb d_M_stretch_141 (by decide) ?_
                  refine lv_icmp_eq (tgt := 158) hx hb d_M_stretch_143 (by decide) (fun c_143 => absurd c_143 (by rw [c_64]; decide)) (fun c_143 => ?_)
                  refine lv_iload_n hx hb d_M_stretch_146 rfl (lv_at hl 4 rfl) ?_
                  refine lv_bipush (v := 64) hx hb d_M_stretch_147 (by decide) ?_
                  refine lv_icmp_eq (tgt := 158) hx hb d_M_stretch_149 (by decide) (fun c_149 => absurd c_149 (by rw [c_64]; decide)) (fun c_149 => ?_)
                  refine lv_iload_n hx hb d_M_stretch_152 rfl (lv_at hl 4 rfl) ?_
                  refine lv_bipush (v := 69) hx hb d_M_stretch_153 (by decide) ?_
                  refine lv_icmp_ne (tgt := 165) hx hb d_M_stretch_155 (by decide) (fun c_155 => ?_) (fun c_155 => absurd c_155 (by rw [c_64]; decide))
                  refine lv_iload_n hx hb d_M_stretch_165 rfl (lv_at hl 4 rfl) ?_
                  refine lv_bipush (v := 53) hx hb d_M_stretch_166 (by decide) ?_
                  refine lv_icmp_eq (tgt := 177) hx hb d_M_stretch_168 (by decide) (fun c_168 => absurd c_168 (by rw [c_64]; decide)) (fun c_168 => ?_)
                  refine lv_iload_n hx hb d_M_stretch_171 rfl (lv_at hl 4 rfl) ?_
                  refine lv_bipush (v := 72) hx hb d_M_stretch_172 (by decide) ?_
                  refine lv_icmp_ne (tgt := 184) hx hb d_M_stretch_174 (by decide) (fun c_174 => ?_) (fun c_174 => absurd c_174 (by rw [c_64]; decide))
                  refine lv_iload_n hx hb d_M_stretch_184 rfl (lv_at hl 4 rfl) ?_
                  refine lv_bipush (v := 55) hx hb d_M_stretch_185 (by decide) ?_
                  refine lv_icmp_ne (tgt := 197) hx hb d_M_stretch_187 (by decide) (fun c_187 => ?_) (fun c_187 => absurd c_187 (by rw [c_64]; decide))
                  refine lv_iload_n hx hb d_M_stretch_197 rfl (lv_at hl 4 rfl) ?_
                  refine lv_bipush (v := 65) hx hb d_M_stretch_198 (by decide) ?_
                  refine lv_icmp_eq (tgt := 209) hx hb d_M_stretch_200 (by decide) (fun c_200 => absurd c_200 (by rw [c_64]; decide)) (fun c_200 => ?_)
                  refine lv_iload_n hx hb d_M_stretch_203 rfl (lv_at hl 4 rfl) ?_
                  refine lv_bipush (v := 66) hx hb d_M_stretch_204 (by decide) ?_
                  refine lv_icmp_ne (tgt := 216) hx hb d_M_stretch_206 (by decide) (fun c_206 => ?_) (fun c_206 => absurd c_206 (by rw [c_64]; decide))
                  refine lv_iload_n hx hb d_M_stretch_216 rfl (lv_at hl 4 rfl) ?_
                  refine lv_bipush (v := 51) hx hb d_M_stretch_217 (by decide) ?_
                  refine lv_icmp_eq (tgt := 234) hx hb d_M_stretch_219 (by decide) (fun c_219 => absurd c_219 (by rw [c_64]; decide)) (fun c_219 => ?_)
                  refine lv_iload_n hx hb d_M_stretch_222 rfl (lv_at hl 4 rfl) ?_
                  refine lv_bipush (v := 69) hx hb d_M_stretch_223 (by decide) ?_
                  refine lv_icmp_eq (tgt := 234) hx hb d_M_stretch_225 (by decide) (fun c_225 => absurd c_225 (by rw [c_64]; decide)) (fun c_225 => ?_)
                  refine lv_iload_n hx hb d_M_stretch_228 rfl (lv_at hl 4 rfl) ?_
                  refine lv_bipush (v := 72) hx hb d_M_stretch_229 (by decide) ?_
                  refine lv_icmp_ne (tgt := 241) hx hb d_M_stretch_231 (by decide) (fun c_231 => ?_) (fun c_231 => absurd c_231 (by rw [c_64]; decide))
                  refine lv_aload_n hx hb d_M_stretch_241 rfl (lv_at hl 3 rfl) ?_
                  refine lv_iload_n hx hb d_M_stretch_242 rfl (lv_at hl 4 rfl) ?_
                  refine roSi (As := [.int x0]) (rest := [.ref b_x]) ⟨hx, hb, hml, hown, hts⟩ (mc_StepMachineModel_longKind l D tc tb z0 x0) (va_cwS 1 hts (goodS a_827 a_828 a_10 a_829) rfl rfl rfl hs_M_longKind ⟨Nat.le_of_ble_eq_true rfl, Nat.le_of_ble_eq_true rfl⟩) (hP.sub [] rfl) hK (hB.kept hS hZ) rfl hl.1 rfl (Nat.le_of_ble_eq_true rfl) d_M_stretch_243 ⟨Nat.zero_le _, Nat.zero_le _⟩ ?_
                  refine roVi (As := [.int (mF_StepMachineModel_longKind x0)]) (rest := []) ⟨hx, hb, hml, hown, hts⟩ (mc_StepMachineModel_put l D tc tb z0 b_x b_row b_part b_mem b_mrk b_sf b_ss b_sr b_h b_r b_in b_out b_k m_on m_hc m_pc m_giv m_tak m_put m_st m_cu m_va m_sp m_un m_kc m_kn m_by m_kd m_tg m_ju (upd m_part (1 : Int32).toNatClampNeg 2) (mF_StepMachineModel_longKind x0) (lk_rng _)) (cwV 1 hts (goodV a_830 a_831 a_934 a_10 a_832) rfl rfl rfl hv_M_put ⟨Nat.le_of_ble_eq_true rfl, Nat.le_of_ble_eq_true rfl⟩) (hP.sub [0, 1, 2] rfl) hK (hB.kept hS hZ) rfl rfl rfl hl.1 rfl (Nat.le_of_ble_eq_true rfl) d_M_stretch_246 ⟨Nat.zero_le _, Nat.zero_le _⟩ ?_
                  exact W.iret (v := (mF_StepMachineModel_put (upd m_part (1 : Int32).toNatClampNeg 2) (mF_StepMachineModel_longKind x0))) hx hb hr (fun t ht hW => ⟨⟨_, (upd m_part (1 : Int32).toNatClampNeg 2), rfl, by rw [mF_StepMachineModel_stretch, if_neg c_10, if_neg c_16, if_neg c_22, if_neg c_28, if_pos c_34, if_neg c_46, if_neg c_52, if_pos c_64], by rw [ht]; exact hP, va_K.moved hW.alike hK, hD⟩, hS.F ht⟩) hS.2.2 d_M_stretch_249
                · skip
                  refine lv_iload_n hx hb d_M_stretch_67 rfl (lv_at hl 3 rfl) ?_
                  refine lv_bipush (v := 55) hx hb d_M_stretch_68 (by decide) ?_
                  refine lv_icmp_eq (tgt := 85) hx hb d_M_stretch_70 (by decide) (fun c_70 => ?_) (fun c_70 => ?_)
                  · skip
                    refine lv_iconst (v := 1) hx hb d_M_stretch_85 (by decide) ?_
                    refine lv_goto (tgt := 90) hx hb d_M_stretch_86 (by decide) ?_
                    refine lv_istore (lv' := [(4, .int 1), (3, .int 0), (2, .int (m_part (0 : Int32).toNatClampNeg)), (0, .ref b_x), (1, .int x0)]) hx hb d_M_stretch_90 hl (by decide) rfl (fun ls hl => ?_)
                    refine lv_iload_n hx hb d_M_stretch_92 rfl (lv_at hl 1 rfl) ?_
                    refine lv_if_eq (tgt := 103) hx hb d_M_stretch_93 (by decide) (fun c_93 => ?_) (fun c_93 => absurd c_93 (by decide))
                    refine lv_iload hx hb d_M_stretch_103 (lv_at hl 0 rfl) ?_
                    refine lv_if_eq (tgt := 115) hx hb d_M_stretch_105 (by decide) (fun c_105 => absurd c_105 (by decide)) (fun c_105 => ?_)
                    refine lv_aload_n hx hb d_M_stretch_108 rfl (lv_at hl 3 rfl) ?_
                    refine va_get (D := D) (ci := 9) (v := .ref b_part) (C := "StepMachineModel") (T := TX9) (N := 29) hx hb hts inU_9 hown hK hP 0 rfl rfl 1 (by decide) (hts _ a_634) (fun _ h9 => h9) rfl d_M_stretch_109 ?_
                    refine lv_iconst (v := 1) hx hb d_M_stretch_112 (by decide) ?_
                    refine lv_iconst (v := 2) hx hb d_M_stretch_113 (by decide) ?_
                    refine va_iast hx hb hK hP hD hS 2 0 rfl rfl (vp_in_nI (n := 1) (N := 4) (by decide) (by decide)) d_M_stretch_114 (fun H locs hP hD hS => ?_)
                    have hP : va_P D vwCl [(b_x, .inr (9, [.ref b_row, .ref b_part, .ref b_mem, .ref b_mrk, .ref b_sf, .ref b_ss, .ref b_sr, .int m_on, .ref b_h, .int m_hc, .ref b_r, .int m_pc, .ref b_in, .int m_giv, .int m_tak, .ref b_out, .int m_put, .int m_st, .int m_cu, .int m_va, .int m_sp, .int m_un, .ref b_k, .int m_kc, .int m_kn, .int m_by, .int m_kd, .int m_tg, .int m_ju])), (b_row, .inl (tc 0, 2400, .inl rowT)), (b_part, .inl (tc 0, 4, .inl (upd m_part (1 : Int32).toNatClampNeg 2)))] H := hP
                    have hD : va_D A [(b_x, .inr (9, [.ref b_row, .ref b_part, .ref b_mem, .ref b_mrk, .ref b_sf, .ref b_ss, .ref b_sr, .int m_on, .ref b_h, .int m_hc, .ref b_r, .int m_pc, .ref b_in, .int m_giv, .int m_tak, .ref b_out, .int m_put, .int m_st, .int m_cu, .int m_va, .int m_sp, .int m_un, .ref b_k, .int m_kc, .int m_kn, .int m_by, .int m_kd, .int m_tg, .int m_ju])), (b_row, .inl (tc 0, 2400, .inl rowT)), (b_part, .inl (tc 0, 4, .inl (upd m_part (1 : Int32).toNatClampNeg 2)))] := hD
                    refine lv_iload_n hx hb d_M_stretch_115 rfl (lv_at hl 4 rfl) ?_
                    refine lv_bipush (v := 51) hx hb d_M_stretch_116 (by decide) ?_
                    refine lv_icmp_eq (tgt := 133) hx hb d_M_stretch_118 (by decide) (fun c_118 => absurd c_118 (by rw [c_70]; decide)) (fun c_118 => ?_)
                    refine lv_iload_n hx hb d_M_stretch_121 rfl (lv_at hl 4 rfl) ?_
                    refine lv_bipush (v := 54) hx hb d_M_stretch_122 (by decide) ?_
                    refine lv_icmp_eq (tgt := 133) hx hb d_M_stretch_124 (by decide) (fun c_124 => absurd c_124 (by rw [c_70]; decide)) (fun c_124 => ?_)
                    refine lv_iload_n hx hb d_M_stretch_127 rfl (lv_at hl 4 rfl) ?_
                    refine lv_bipush (v := 70) hx hb d_M_stretch_128 (by decide) ?_
                    refine lv_icmp_ne (tgt := 140) hx hb d_M_stretch_130 (by decide) (fun c_130 => ?_) (fun c_130 => absurd c_130 (by rw [c_70]; decide))
                    refine lv_iload_n hx hb d_M_stretch_140 rfl (lv_at hl 4 rfl) ?_
                    refine lv_bipush (v := 51) hx hb d_M_stretch_141 (by decide) ?_
                    refine lv_icmp_eq (tgt := 158) hx hb d_M_stretch_143 (by decide) (fun c_143 => absurd c_143 (by rw [c_70]; decide)) (fun c_143 => ?_)
                    refine lv_iload_n hx hb d_M_stretch_146 rfl (lv_at hl 4 rfl) ?_
                    refine lv_bipush (v := 64) hx hb d_M_stretch_147 (by decide) ?_
                    refine lv_icmp_eq (tgt := 158) hx hb d_M_stretch_149 (by decide) (fun c_149 => absurd c_149 (by rw [c_70]; decide)) (fun c_149 => ?_)
                    refine lv_iload_n hx hb d_M_stretch_152 rfl (lv_at hl 4 rfl) ?_
                    refine lv_bipush (v := 69) hx hb d_M_stretch_153 (by decide) ?_
                    refine lv_icmp_ne (tgt := 165) hx hb d_M_stretch_155 (by decide) (fun c_155 => ?_) (fun c_155 => absurd c_155 (by rw [c_70]; decide))
                    refine lv_iload_n hx hb d_M_stretch_165 rfl (lv_at hl 4 rfl) ?_
                    refine lv_bipush (v := 53) hx hb d_M_stretch_166 (by decide) ?_
                    refine lv_icmp_eq (tgt := 177) hx hb d_M_stretch_168 (by decide) (fun c_168 => absurd c_168 (by rw [c_70]; decide)) (fun c_168 => ?_)
                    refine lv_iload_n hx hb d_M_stretch_171 rfl (lv_at hl 4 rfl) ?_
                    refine lv_bipush (v := 72) hx hb d_M_stretch_172 (by decide) ?_
                    refine lv_icmp_ne (tgt := 184) hx hb d_M_stretch_174 (by decide) (fun c_174 => ?_) (fun c_174 => absurd c_174 (by rw [c_70]; decide))
                    refine lv_iload_n hx hb d_M_stretch_184 rfl (lv_at hl 4 rfl) ?_
                    refine lv_bipush (v := 55) hx hb d_M_stretch_185 (by decide) ?_
                    refine lv_icmp_ne (tgt := 197) hx hb d_M_stretch_187 (by decide) (fun c_187 => absurd c_70 c_187) (fun c_187 => ?_)
                    refine lv_aload_n hx hb d_M_stretch_190 rfl (lv_at hl 3 rfl) ?_
                    refine va_get (D := D) (ci := 9) (v := .ref b_part) (C := "StepMachineModel") (T := TX9) (N := 29) hx hb hts inU_9 hown hK hP 0 rfl rfl 1 (by decide) (hts _ a_634) (fun _ h9 => h9) rfl d_M_stretch_191 ?_
                    refine lv_iconst (v := 0) hx hb d_M_stretch_194 (by decide) ?_
                    refine lv_iconst (v := 2) hx hb d_M_stretch_195 (by decide) ?_
                    refine va_iast hx hb hK hP hD hS 2 0 rfl rfl (vp_in_nI (n := 0) (N := 4) (by decide) (by decide)) d_M_stretch_196 (fun H locs hP hD hS => ?_)
                    have hP : va_P D vwCl [(b_x, .inr (9, [.ref b_row, .ref b_part, .ref b_mem, .ref b_mrk, .ref b_sf, .ref b_ss, .ref b_sr, .int m_on, .ref b_h, .int m_hc, .ref b_r, .int m_pc, .ref b_in, .int m_giv, .int m_tak, .ref b_out, .int m_put, .int m_st, .int m_cu, .int m_va, .int m_sp, .int m_un, .ref b_k, .int m_kc, .int m_kn, .int m_by, .int m_kd, .int m_tg, .int m_ju])), (b_row, .inl (tc 0, 2400, .inl rowT)), (b_part, .inl (tc 0, 4, .inl (upd (upd m_part (1 : Int32).toNatClampNeg 2) (0 : Int32).toNatClampNeg 2)))] H := hP
                    have hD : va_D A [(b_x, .inr (9, [.ref b_row, .ref b_part, .ref b_mem, .ref b_mrk, .ref b_sf, .ref b_ss, .ref b_sr, .int m_on, .ref b_h, .int m_hc, .ref b_r, .int m_pc, .ref b_in, .int m_giv, .int m_tak, .ref b_out, .int m_put, .int m_st, .int m_cu, .int m_va, .int m_sp, .int m_un, .ref b_k, .int m_kc, .int m_kn, .int m_by, .int m_kd, .int m_tg, .int m_ju])), (b_row, .inl (tc 0, 2400, .inl rowT)), (b_part, .inl (tc 0, 4, .inl (upd (upd m_part (1 : Int32).toNatClampNeg 2) (0 : Int32).toNatClampNeg 2)))] := hD
                    refine lv_iload_n hx hb d_M_stretch_197 rfl (lv_at hl 4 rfl) ?_
                    refine lv_bipush (v := 65) hx hb d_M_stretch_198 (by decide) ?_
                    refine lv_icmp_eq (tgt := 209) hx hb d_M_stretch_200 (by decide) (fun c_200 => absurd c_200 (by rw [c_70]; decide)) (fun c_200 => ?_)
                    refine lv_iload_n hx hb d_M_stretch_203 rfl (lv_at hl 4 rfl) ?_
                    refine lv_bipush (v := 66) hx hb d_M_stretch_204 (by decide) ?_
                    refine lv_icmp_ne (tgt := 216) hx hb d_M_stretch_206 (by decide) (fun c_206 => ?_) (fun c_206 => absurd c_206 (by rw [c_70]; decide))
                    refine lv_iload_n hx hb d_M_stretch_216 rfl (lv_at hl 4 rfl) ?_
                    refine lv_bipush (v := 51) hx hb d_M_stretch_217 (by decide) ?_
                    refine lv_icmp_eq (tgt := 234) hx hb d_M_stretch_219 (by decide) (fun c_219 => absurd c_219 (by rw [c_70]; decide)) (fun c_219 => ?_)
                    refine lv_iload_n hx hb d_M_stretch_222 rfl (lv_at hl 4 rfl) ?_
                    refine lv_bipush (v := 69) hx hb d_M_stretch_223 (by decide) ?_
                    refine lv_icmp_eq (tgt := 234) hx hb d_M_stretch_225 (by decide) (fun c_225 => absurd c_225 (by rw [c_70]; decide)) (fun c_225 => ?_)
                    refine lv_iload_n hx hb d_M_stretch_228 rfl (lv_at hl 4 rfl) ?_
                    refine lv_bipush (v := 72) hx hb d_M_stretch_229 (by decide) ?_
                    refine lv_icmp_ne (tgt := 241) hx hb d_M_stretch_231 (by decide) (fun c_231 => ?_) (fun c_231 => absurd c_231 (by rw [c_70]; decide))
                    refine lv_aload_n hx hb d_M_stretch_241 rfl (lv_at hl 3 rfl) ?_
                    refine lv_iload_n hx hb d_M_stretch_242 rfl (lv_at hl 4 rfl) ?_
                    refine roSi (As := [.int x0]) (rest := [.ref b_x]) ⟨hx, hb, hml, hown, hts⟩ (mc_StepMachineModel_longKind l D tc tb z0 x0) (va_cwS 1 hts (goodS a_827 a_828 a_10 a_829) rfl rfl rfl hs_M_longKind ⟨Nat.le_of_ble_eq_true rfl, Nat.le_of_ble_eq_true rfl⟩) (hP.sub [] rfl) hK (hB.kept hS hZ) rfl hl.1 rfl (Nat.le_of_ble_eq_true rfl) d_M_stretch_243 ⟨Nat.zero_le _, Nat.zero_le _⟩ ?_
                    refine roVi (As := [.int (mF_StepMachineModel_longKind x0)]) (rest := []) ⟨hx, hb, hml, hown, hts⟩ (mc_StepMachineModel_put l D tc tb z0 b_x b_row b_part b_mem b_mrk b_sf b_ss b_sr b_h b_r b_in b_out b_k m_on m_hc m_pc m_giv m_tak m_put m_st m_cu m_va m_sp m_un m_kc m_kn m_by m_kd m_tg m_ju (upd (upd m_part (1 : Int32).toNatClampNeg 2) (0 : Int32).toNatClampNeg 2) (mF_StepMachineModel_longKind x0) (lk_rng _)) (cwV 1 hts (goodV a_830 a_831 a_934 a_10 a_832) rfl rfl rfl hv_M_put ⟨Nat.le_of_ble_eq_true rfl, Nat.le_of_ble_eq_true rfl⟩) (hP.sub [0, 1, 2] rfl) hK (hB.kept hS hZ) rfl rfl rfl hl.1 rfl (Nat.le_of_ble_eq_true rfl) d_M_stretch_246 ⟨Nat.zero_le _, Nat.zero_le _⟩ ?_
                    exact W.iret (v := (mF_StepMachineModel_put (upd (upd m_part (1 : Int32).toNatClampNeg 2) (0 : Int32).toNatClampNeg 2) (mF_StepMachineModel_longKind x0))) hx hb hr (fun t ht hW => ⟨⟨_, (upd (upd m_part (1 : Int32).toNatClampNeg 2) (0 : Int32).toNatClampNeg 2), rfl, by rw [mF_StepMachineModel_stretch, if_neg c_10, if_neg c_16, if_neg c_22, if_neg c_28, if_pos c_34, if_neg c_46, if_neg c_52, if_neg c_64, if_pos c_70], by rw [ht]; exact hP, va_K.moved hW.alike hK, hD⟩, hS.F ht⟩) hS.2.2 d_M_stretch_249
                  · skip
                    refine lv_iload_n hx hb d_M_stretch_73 rfl (lv_at hl 3 rfl) ?_
                    refine lv_bipush (v := 68) hx hb d_M_stretch_74 (by decide) ?_
                    refine lv_icmp_eq (tgt := 85) hx hb d_M_stretch_76 (by decide) (fun c_76 => ?_) (fun c_76 => ?_)
                    · skip
                      refine lv_iconst (v := 1) hx hb d_M_stretch_85 (by decide) ?_
                      refine lv_goto (tgt := 90) hx hb d_M_stretch_86 (by decide) ?_
                      refine lv_istore (lv' := [(4, .int 1), (3, .int 0), (2, .int (m_part (0 : Int32).toNatClampNeg)), (0, .ref b_x), (1, .int x0)]) hx hb d_M_stretch_90 hl (by decide) rfl (fun ls hl => ?_)
                      refine lv_iload_n hx hb d_M_stretch_92 rfl (lv_at hl 1 rfl) ?_
                      refine lv_if_eq (tgt := 103) hx hb d_M_stretch_93 (by decide) (fun c_93 => ?_) (fun c_93 => absurd c_93 (by decide))
                      refine lv_iload hx hb d_M_stretch_103 (lv_at hl 0 rfl) ?_
                      refine lv_if_eq (tgt := 115) hx hb d_M_stretch_105 (by decide) (fun c_105 => absurd c_105 (by decide)) (fun c_105 => ?_)
                      refine lv_aload_n hx hb d_M_stretch_108 rfl (lv_at hl 3 rfl) ?_
                      refine va_get (D := D) (ci := 9) (v := .ref b_part) (C := "StepMachineModel") (T := TX9) (N := 29) hx hb hts inU_9 hown hK hP 0 rfl rfl 1 (by decide) (hts _ a_634) (fun _ h9 => h9) rfl d_M_stretch_109 ?_
                      refine lv_iconst (v := 1) hx hb d_M_stretch_112 (by decide) ?_
                      refine lv_iconst (v := 2) hx hb d_M_stretch_113 (by decide) ?_
                      refine va_iast hx hb hK hP hD hS 2 0 rfl rfl (vp_in_nI (n := 1) (N := 4) (by decide) (by decide)) d_M_stretch_114 (fun H locs hP hD hS => ?_)
                      have hP : va_P D vwCl [(b_x, .inr (9, [.ref b_row, .ref b_part, .ref b_mem, .ref b_mrk, .ref b_sf, .ref b_ss, .ref b_sr, .int m_on, .ref b_h, .int m_hc, .ref b_r, .int m_pc, .ref b_in, .int m_giv, .int m_tak, .ref b_out, .int m_put, .int m_st, .int m_cu, .int m_va, .int m_sp, .int m_un, .ref b_k, .int m_kc, .int m_kn, .int m_by, .int m_kd, .int m_tg, .int m_ju])), (b_row, .inl (tc 0, 2400, .inl rowT)), (b_part, .inl (tc 0, 4, .inl (upd m_part (1 : Int32).toNatClampNeg 2)))] H := hP
                      have hD : va_D A [(b_x, .inr (9, [.ref b_row, .ref b_part, .ref b_mem, .ref b_mrk, .ref b_sf, .ref b_ss, .ref b_sr, .int m_on, .ref b_h, .int m_hc, .ref b_r, .int m_pc, .ref b_in, .int m_giv, .int m_tak, .ref b_out, .int m_put, .int m_st, .int m_cu, .int m_va, .int m_sp, .int m_un, .ref b_k, .int m_kc, .int m_kn, .int m_by, .int m_kd, .int m_tg, .int m_ju])), (b_row, .inl (tc 0, 2400, .inl rowT)), (b_part, .inl (tc 0, 4, .inl (upd m_part (1 : Int32).toNatClampNeg 2)))] := hD
                      refine lv_iload_n hx hb d_M_stretch_115 rfl (lv_at hl 4 rfl) ?_
                      refine lv_bipush (v := 51) hx hb d_M_stretch_116 (by decide) ?_
                      refine lv_icmp_eq (tgt := 133) hx hb d_M_stretch_118 (by decide) (fun c_118 => absurd c_118 (by rw [c_76]; decide)) (fun c_118 => ?_)
                      refine lv_iload_n hx hb d_M_stretch_121 rfl (lv_at hl 4 rfl) ?_
                      refine lv_bipush (v := 54) hx hb d_M_stretch_122 (by decide) ?_
                      refine lv_icmp_eq (tgt := 133) hx hb d_M_stretch_124 (by decide) (fun c_124 => absurd c_124 (by rw [c_76]; decide)) (fun c_124 => ?_)
                      refine lv_iload_n hx hb d_M_stretch_127 rfl (lv_at hl 4 rfl) ?_
                      refine lv_bipush (v := 70) hx hb d_M_stretch_128 (by decide) ?_
                      refine lv_icmp_ne (tgt := 140) hx hb d_M_stretch_130 (by decide) (fun c_130 => ?_) (fun c_130 => absurd c_130 (by rw [c_76]; decide))
                      refine lv_iload_n hx hb d_M_stretch_140 rfl (lv_at hl 4 rfl) ?_
                      refine lv_bipush (v := 51) hx hb d_M_stretch_141 (by decide) ?_
                      refine lv_icmp_eq (tgt := 158) hx hb d_M_stretch_143 (by decide) (fun c_143 => absurd c_143 (by rw [c_76]; decide)) (fun c_143 => ?_)
                      refine lv_iload_n hx hb d_M_stretch_146 rfl (lv_at hl 4 rfl) ?_
                      refine lv_bipush (v := 64) hx hb d_M_stretch_147 (by decide) ?_
                      refine lv_icmp_eq (tgt := 158) hx hb d_M_stretch_149 (by decide) (fun c_149 => absurd c_149 (by rw [c_76]; decide)) (fun c_149 => ?_)
                      refine lv_iload_n hx hb d_M_stretch_152 rfl (lv_at hl 4 rfl) ?_
                      refine lv_bipush (v := 69) hx hb d_M_stretch_153 (by decide) ?_
                      refine lv_icmp_ne (tgt := 165) hx hb d_M_stretch_155 (by decide) (fun c_155 => ?_) (fun c_155 => absurd c_155 (by rw [c_76]; decide))
                      refine lv_iload_n hx hb d_M_stretch_165 rfl (lv_at hl 4 rfl) ?_
                      refine lv_bipush (v := 53) hx hb d_M_stretch_166 (by decide) ?_
                      refine lv_icmp_eq (tgt := 177) hx hb d_M_stretch_168 (by decide) (fun c_168 => absurd c_168 (by rw [c_76]; decide)) (fun c_168 => ?_)
                      refine lv_iload_n hx hb d_M_stretch_171 rfl (lv_at hl 4 rfl) ?_
                      refine lv_bipush (v := 72) hx hb d_M_stretch_172 (by decide) ?_
                      refine lv_icmp_ne (tgt := 184) hx hb d_M_stretch_174 (by decide) (fun c_174 => ?_) (fun c_174 => absurd c_174 (by rw [c_76]; decide))
                      refine lv_iload_n hx hb d_M_stretch_184 rfl (lv_at hl 4 rfl) ?_
                      refine lv_bipush (v := 55) hx hb d_M_stretch_185 (by decide) ?_
                      refine lv_icmp_ne (tgt := 197) hx hb d_M_stretch_187 (by decide) (fun c_187 => ?_) (fun c_187 => absurd c_187 c_70)
                      refine lv_iload_n hx hb d_M_stretch_197 rfl (lv_at hl 4 rfl) ?_
                      refine lv_bipush (v := 65) hx hb d_M_stretch_198 (by decide) ?_
                      refine lv_icmp_eq (tgt := 209) hx hb d_M_stretch_200 (by decide) (fun c_200 => absurd c_200 (by rw [c_76]; decide)) (fun c_200 => ?_)
                      refine lv_iload_n hx hb d_M_stretch_203 rfl (lv_at hl 4 rfl) ?_
                      refine lv_bipush (v := 66) hx hb d_M_stretch_204 (by decide) ?_
                      refine lv_icmp_ne (tgt := 216) hx hb d_M_stretch_206 (by decide) (fun c_206 => ?_) (fun c_206 => absurd c_206 (by rw [c_76]; decide))
                      refine lv_iload_n hx hb d_M_stretch_216 rfl (lv_at hl 4 rfl) ?_
                      refine lv_bipush (v := 51) hx hb d_M_stretch_217 (by decide) ?_
                      refine lv_icmp_eq (tgt := 234) hx hb d_M_stretch_219 (by decide) (fun c_219 => absurd c_219 (by rw [c_76]; decide)) (fun c_219 => ?_)
                      refine lv_iload_n hx hb d_M_stretch_222 rfl (lv_at hl 4 rfl) ?_
                      refine lv_bipush (v := 69) hx hb d_M_stretch_223 (by decide) ?_
                      refine lv_icmp_eq (tgt := 234) hx hb d_M_stretch_225 (by decide) (fun c_225 => absurd c_225 (by rw [c_76]; decide)) (fun c_225 => ?_)
                      refine lv_iload_n hx hb d_M_stretch_228 rfl (lv_at hl 4 rfl) ?_
                      refine lv_bipush (v := 72) hx hb d_M_stretch_229 (by decide) ?_
                      refine lv_icmp_ne (tgt := 241) hx hb d_M_stretch_231 (by decide) (fun c_231 => ?_) (fun c_231 => absurd c_231 (by rw [c_76]; decide))
                      refine lv_aload_n hx hb d_M_stretch_241 rfl (lv_at hl 3 rfl) ?_
                      refine lv_iload_n hx hb d_M_stretch_242 rfl (lv_at hl 4 rfl) ?_
                      refine roSi (As := [.int x0]) (rest := [.ref b_x]) ⟨hx, hb, hml, hown, hts⟩ (mc_StepMachineModel_longKind l D tc tb z0 x0) (va_cwS 1 hts (goodS a_827 a_828 a_10 a_829) rfl rfl rfl hs_M_longKind ⟨Nat.le_of_ble_eq_true rfl, Nat.le_of_ble_eq_true rfl⟩) (hP.sub [] rfl) hK (hB.kept hS hZ) rfl hl.1 rfl (Nat.le_of_ble_eq_true rfl) d_M_stretch_243 ⟨Nat.zero_le _, Nat.zero_le _⟩ ?_
                      refine roVi (As := [.int (mF_StepMachineModel_longKind x0)]) (rest := []) ⟨hx, hb, hml, hown, hts⟩ (mc_StepMachineModel_put l D tc tb z0 b_x b_row b_part b_mem b_mrk b_sf b_ss b_sr b_h b_r b_in b_out b_k m_on m_hc m_pc m_giv m_tak m_put m_st m_cu m_va m_sp m_un m_kc m_kn m_by m_kd m_tg m_ju (upd m_part (1 : Int32).toNatClampNeg 2) (mF_StepMachineModel_longKind x0) (lk_rng _)) (cwV 1 hts (goodV a_830 a_831 a_934 a_10 a_832) rfl rfl rfl hv_M_put ⟨Nat.le_of_ble_eq_true rfl, Nat.le_of_ble_eq_true rfl⟩) (hP.sub [0, 1, 2] rfl) hK (hB.kept hS hZ) rfl rfl rfl hl.1 rfl (Nat.le_of_ble_eq_true rfl) d_M_stretch_246 ⟨Nat.zero_le _, Nat.zero_le _⟩ ?_
                      exact W.iret (v := (mF_StepMachineModel_put (upd m_part (1 : Int32).toNatClampNeg 2) (mF_StepMachineModel_longKind x0))) hx hb hr (fun t ht hW => ⟨⟨_, (upd m_part (1 : Int32).toNatClampNeg 2), rfl, by rw [mF_StepMachineModel_stretch, if_neg c_10, if_neg c_16, if_neg c_22, if_neg c_28, if_pos c_34, if_neg c_46, if_neg c_52, if_neg c_64, if_neg c_70, if_pos c_76], by rw [ht]; exact hP, va_K.moved hW.alike hK, hD⟩, hS.F ht⟩) hS.2.2 d_M_stretch_249
                    · skip
                      refine lv_iload_n hx hb d_M_stretch_79 rfl (lv_at hl 3 rfl) ?_
                      refine lv_bipush (v := 74) hx hb d_M_stretch_80 (by decide) ?_
                      refine lv_icmp_ne (tgt := 89) hx hb d_M_stretch_82 (by decide) (fun c_82 => ?_) (fun c_82 => ?_)
                      · skip
                        refine lv_iconst (v := 0) hx hb d_M_stretch_89 (by decide) ?_
                        refine lv_istore (lv' := [(4, .int 0), (3, .int 0), (2, .int (m_part (0 : Int32).toNatClampNeg)), (0, .ref b_x), (1, .int x0)]) hx hb d_M_stretch_90 hl (by decide) rfl (fun ls hl => ?_)
                        refine lv_iload_n hx hb d_M_stretch_92 rfl (lv_at hl 1 rfl) ?_
                        refine lv_if_eq (tgt := 103) hx hb d_M_stretch_93 (by decide) (fun c_93 => ?_) (fun c_93 => absurd c_93 (by decide))
                        refine lv_iload hx hb d_M_stretch_103 (lv_at hl 0 rfl) ?_
                        refine lv_if_eq (tgt := 115) hx hb d_M_stretch_105 (by decide) (fun c_105 => ?_) (fun c_105 => absurd c_105 (by decide))
                        refine lv_iload_n hx hb d_M_stretch_115 rfl (lv_at hl 4 rfl) ?_
                        refine lv_bipush (v := 51) hx hb d_M_stretch_116 (by decide) ?_
                        refine lv_icmp_eq (tgt := 133) hx hb d_M_stretch_118 (by decide) (fun c_118 => ?_) (fun c_118 => ?_)
                        · skip
                          refine lv_aload_n hx hb d_M_stretch_133 rfl (lv_at hl 3 rfl) ?_
                          refine va_get (D := D) (ci := 9) (v := .ref b_part) (C := "StepMachineModel") (T := TX9) (N := 29) hx hb hts inU_9 hown hK hP 0 rfl rfl 1 (by decide) (hts _ a_634) (fun _ h9 => h9) rfl d_M_stretch_134 ?_
                          refine lv_iconst (v := 1) hx hb d_M_stretch_137 (by decide) ?_
                          refine lv_iconst (v := 0) hx hb d_M_stretch_138 (by decide) ?_
                          refine va_iast hx hb hK hP hD hS 2 0 rfl rfl (vp_in_nI (n := 1) (N := 4) (by decide) (by decide)) d_M_stretch_139 (fun H locs hP hD hS => ?_)
                          have hP : va_P D vwCl [(b_x, .inr (9, [.ref b_row, .ref b_part, .ref b_mem, .ref b_mrk, .ref b_sf, .ref b_ss, .ref b_sr, .int m_on, .ref b_h, .int m_hc, .ref b_r, .int m_pc, .ref b_in, .int m_giv, .int m_tak, .ref b_out, .int m_put, .int m_st, .int m_cu, .int m_va, .int m_sp, .int m_un, .ref b_k, .int m_kc, .int m_kn, .int m_by, .int m_kd, .int m_tg, .int m_ju])), (b_row, .inl (tc 0, 2400, .inl rowT)), (b_part, .inl (tc 0, 4, .inl (upd m_part (1 : Int32).toNatClampNeg 0)))] H := hP
                          have hD : va_D A [(b_x, .inr (9, [.ref b_row, .ref b_part, .ref b_mem, .ref b_mrk, .ref b_sf, .ref b_ss, .ref b_sr, .int m_on, .ref b_h, .int m_hc, .ref b_r, .int m_pc, .ref b_in, .int m_giv, .int m_tak, .ref b_out, .int m_put, .int m_st, .int m_cu, .int m_va, .int m_sp, .int m_un, .ref b_k, .int m_kc, .int m_kn, .int m_by, .int m_kd, .int m_tg, .int m_ju])), (b_row, .inl (tc 0, 2400, .inl rowT)), (b_part, .inl (tc 0, 4, .inl (upd m_part (1 : Int32).toNatClampNeg 0)))] := hD
                          refine lv_iload_n hx hb d_M_stretch_140 rfl (lv_at hl 4 rfl) ?_
                          refine lv_bipush (v := 51) hx hb d_M_stretch_141 (by decide) ?_
                          refine lv_icmp_eq (tgt := 158) hx hb d_M_stretch_143 (by decide) (fun c_143 => ?_) (fun c_143 => absurd c_118 c_143)
                          refine lv_aload_n hx hb d_M_stretch_158 rfl (lv_at hl 3 rfl) ?_
                          refine va_get (D := D) (ci := 9) (v := .ref b_part) (C := "StepMachineModel") (T := TX9) (N := 29) hx hb hts inU_9 hown hK hP 0 rfl rfl 1 (by decide) (hts _ a_634) (fun _ h9 => h9) rfl d_M_stretch_159 ?_
                          refine lv_iconst (v := 0) hx hb d_M_stretch_162 (by decide) ?_
                          refine lv_iconst (v := 0) hx hb d_M_stretch_163 (by decide) ?_
                          refine va_iast hx hb hK hP hD hS 2 0 rfl rfl (vp_in_nI (n := 0) (N := 4) (by decide) (by decide)) d_M_stretch_164 (fun H locs hP hD hS => ?_)
                          have hP : va_P D vwCl [(b_x, .inr (9, [.ref b_row, .ref b_part, .ref b_mem, .ref b_mrk, .ref b_sf, .ref b_ss, .ref b_sr, .int m_on, .ref b_h, .int m_hc, .ref b_r, .int m_pc, .ref b_in, .int m_giv, .int m_tak, .ref b_out, .int m_put, .int m_st, .int m_cu, .int m_va, .int m_sp, .int m_un, .ref b_k, .int m_kc, .int m_kn, .int m_by, .int m_kd, .int m_tg, .int m_ju])), (b_row, .inl (tc 0, 2400, .inl rowT)), (b_part, .inl (tc 0, 4, .inl (upd (upd m_part (1 : Int32).toNatClampNeg 0) (0 : Int32).toNatClampNeg 0)))] H := hP
                          have hD : va_D A [(b_x, .inr (9, [.ref b_row, .ref b_part, .ref b_mem, .ref b_mrk, .ref b_sf, .ref b_ss, .ref b_sr, .int m_on, .ref b_h, .int m_hc, .ref b_r, .int m_pc, .ref b_in, .int m_giv, .int m_tak, .ref b_out, .int m_put, .int m_st, .int m_cu, .int m_va, .int m_sp, .int m_un, .ref b_k, .int m_kc, .int m_kn, .int m_by, .int m_kd, .int m_tg, .int m_ju])), (b_row, .inl (tc 0, 2400, .inl rowT)), (b_part, .inl (tc 0, 4, .inl (upd (upd m_part (1 : Int32).toNatClampNeg 0) (0 : Int32).toNatClampNeg 0)))] := hD
                          refine lv_iload_n hx hb d_M_stretch_165 rfl (lv_at hl 4 rfl) ?_
                          refine lv_bipush (v := 53) hx hb d_M_stretch_166 (by decide) ?_
                          refine lv_icmp_eq (tgt := 177) hx hb d_M_stretch_168 (by decide) (fun c_168 => absurd c_168 (by rw [c_118]; decide)) (fun c_168 => ?_)
                          refine lv_iload_n hx hb d_M_stretch_171 rfl (lv_at hl 4 rfl) ?_
                          refine lv_bipush (v := 72) hx hb d_M_stretch_172 (by decide) ?_
                          refine lv_icmp_ne (tgt := 184) hx hb d_M_stretch_174 (by decide) (fun c_174 => ?_) (fun c_174 => absurd c_174 (by rw [c_118]; decide))
                          refine lv_iload_n hx hb d_M_stretch_184 rfl (lv_at hl 4 rfl) ?_
                          refine lv_bipush (v := 55) hx hb d_M_stretch_185 (by decide) ?_
                          refine lv_icmp_ne (tgt := 197) hx hb d_M_stretch_187 (by decide) (fun c_187 => ?_) (fun c_187 => absurd c_187 c_70)
                          refine lv_iload_n hx hb d_M_stretch_197 rfl (lv_at hl 4 rfl) ?_
                          refine lv_bipush (v := 65) hx hb d_M_stretch_198 (by decide) ?_
                          refine lv_icmp_eq (tgt := 209) hx hb d_M_stretch_200 (by decide) (fun c_200 => absurd c_200 (by rw [c_118]; decide)) (fun c_200 => ?_)
                          refine lv_iload_n hx hb d_M_stretch_203 rfl (lv_at hl 4 rfl) ?_
                          refine lv_bipush (v := 66) hx hb d_M_stretch_204 (by decide) ?_
                          refine lv_icmp_ne (tgt := 216) hx hb d_M_stretch_206 (by decide) (fun c_206 => ?_) (fun c_206 => absurd c_206 (by rw [c_118]; decide))
                          refine lv_iload_n hx hb d_M_stretch_216 rfl (lv_at hl 4 rfl) ?_
                          refine lv_bipush (v := 51) hx hb d_M_stretch_217 (by decide) ?_
                          refine lv_icmp_eq (tgt := 234) hx hb d_M_stretch_219 (by decide) (fun c_219 => ?_) (fun c_219 => absurd c_118 c_219)
                          refine lv_aload_n hx hb d_M_stretch_234 rfl (lv_at hl 3 rfl) ?_
                          refine va_get (D := D) (ci := 9) (v := .ref b_part) (C := "StepMachineModel") (T := TX9) (N := 29) hx hb hts inU_9 hown hK hP 0 rfl rfl 1 (by decide) (hts _ a_634) (fun _ h9 => h9) rfl d_M_stretch_235 ?_
                          refine lv_iconst (v := 3) hx hb d_M_stretch_238 (by decide) ?_
                          refine lv_iconst (v := 0) hx hb d_M_stretch_239 (by decide) ?_
                          refine va_iast hx hb hK hP hD hS 2 0 rfl rfl (vp_in_nI (n := 3) (N := 4) (by decide) (by decide)) d_M_stretch_240 (fun H locs hP hD hS => ?_)
                          have hP : va_P D vwCl [(b_x, .inr (9, [.ref b_row, .ref b_part, .ref b_mem, .ref b_mrk, .ref b_sf, .ref b_ss, .ref b_sr, .int m_on, .ref b_h, .int m_hc, .ref b_r, .int m_pc, .ref b_in, .int m_giv, .int m_tak, .ref b_out, .int m_put, .int m_st, .int m_cu, .int m_va, .int m_sp, .int m_un, .ref b_k, .int m_kc, .int m_kn, .int m_by, .int m_kd, .int m_tg, .int m_ju])), (b_row, .inl (tc 0, 2400, .inl rowT)), (b_part, .inl (tc 0, 4, .inl (upd (upd (upd m_part (1 : Int32).toNatClampNeg 0) (0 : Int32).toNatClampNeg 0) (3 : Int32).toNatClampNeg 0)))] H := hP
                          have hD : va_D A [(b_x, .inr (9, [.ref b_row, .ref b_part, .ref b_mem, .ref b_mrk, .ref b_sf, .ref b_ss, .ref b_sr, .int m_on, .ref b_h, .int m_hc, .ref b_r, .int m_pc, .ref b_in, .int m_giv, .int m_tak, .ref b_out, .int m_put, .int m_st, .int m_cu, .int m_va, .int m_sp, .int m_un, .ref b_k, .int m_kc, .int m_kn, .int m_by, .int m_kd, .int m_tg, .int m_ju])), (b_row, .inl (tc 0, 2400, .inl rowT)), (b_part, .inl (tc 0, 4, .inl (upd (upd (upd m_part (1 : Int32).toNatClampNeg 0) (0 : Int32).toNatClampNeg 0) (3 : Int32).toNatClampNeg 0)))] := hD
                          refine lv_aload_n hx hb d_M_stretch_241 rfl (lv_at hl 3 rfl) ?_
                          refine lv_iload_n hx hb d_M_stretch_242 rfl (lv_at hl 4 rfl) ?_
                          refine roSi (As := [.int x0]) (rest := [.ref b_x]) ⟨hx, hb, hml, hown, hts⟩ (mc_StepMachineModel_longKind l D tc tb z0 x0) (va_cwS 1 hts (goodS a_827 a_828 a_10 a_829) rfl rfl rfl hs_M_longKind ⟨Nat.le_of_ble_eq_true rfl, Nat.le_of_ble_eq_true rfl⟩) (hP.sub [] rfl) hK (hB.kept hS hZ) rfl hl.1 rfl (Nat.le_of_ble_eq_true rfl) d_M_stretch_243 ⟨Nat.zero_le _, Nat.zero_le _⟩ ?_
                          refine roVi (As := [.int (mF_StepMachineModel_longKind x0)]) (rest := []) ⟨hx, hb, hml, hown, hts⟩ (mc_StepMachineModel_put l D tc tb z0 b_x b_row b_part b_mem b_mrk b_sf b_ss b_sr b_h b_r b_in b_out b_k m_on m_hc m_pc m_giv m_tak m_put m_st m_cu m_va m_sp m_un m_kc m_kn m_by m_kd m_tg m_ju (upd (upd (upd m_part (1 : Int32).toNatClampNeg 0) (0 : Int32).toNatClampNeg 0) (3 : Int32).toNatClampNeg 0) (mF_StepMachineModel_longKind x0) (lk_rng _)) (cwV 1 hts (goodV a_830 a_831 a_934 a_10 a_832) rfl rfl rfl hv_M_put ⟨Nat.le_of_ble_eq_true rfl, Nat.le_of_ble_eq_true rfl⟩) (hP.sub [0, 1, 2] rfl) hK (hB.kept hS hZ) rfl rfl rfl hl.1 rfl (Nat.le_of_ble_eq_true rfl) d_M_stretch_246 ⟨Nat.zero_le _, Nat.zero_le _⟩ ?_
                          exact W.iret (v := (mF_StepMachineModel_put (upd (upd (upd m_part (1 : Int32).toNatClampNeg 0) (0 : Int32).toNatClampNeg 0) (3 : Int32).toNatClampNeg 0) (mF_StepMachineModel_longKind x0))) hx hb hr (fun t ht hW => ⟨⟨_, (upd (upd (upd m_part (1 : Int32).toNatClampNeg 0) (0 : Int32).toNatClampNeg 0) (3 : Int32).toNatClampNeg 0), rfl, by rw [mF_StepMachineModel_stretch, if_neg c_10, if_neg c_16, if_neg c_22, if_neg c_28, if_pos c_34, if_neg c_46, if_neg c_52, if_neg c_64, if_neg c_70, if_neg c_76, if_neg c_82, if_pos c_118], by rw [ht]; exact hP, va_K.moved hW.alike hK, hD⟩, hS.F ht⟩) hS.2.2 d_M_stretch_249
                        · skip
                          refine lv_iload_n hx hb d_M_stretch_121 rfl (lv_at hl 4 rfl) ?_
                          refine lv_bipush (v := 54) hx hb d_M_stretch_122 (by decide) ?_
                          refine lv_icmp_eq (tgt := 133) hx hb d_M_stretch_124 (by decide) (fun c_124 => ?_) (fun c_124 => ?_)
                          · skip
                            refine lv_aload_n hx hb d_M_stretch_133 rfl (lv_at hl 3 rfl) ?_
                            refine va_get (D := D) (ci := 9) (v := .ref b_part) (C := "StepMachineModel") (T := TX9) (N := 29) hx hb hts inU_9 hown hK hP 0 rfl rfl 1 (by decide) (hts _ a_634) (fun _ h9 => h9) rfl d_M_stretch_134 ?_
                            refine lv_iconst (v := 1) hx hb d_M_stretch_137 (by decide) ?_
                            refine lv_iconst (v := 0) hx hb d_M_stretch_138 (by decide) ?_
                            refine va_iast hx hb hK hP hD hS 2 0 rfl rfl (vp_in_nI (n := 1) (N := 4) (by decide) (by decide)) d_M_stretch_139 (fun H locs hP hD hS => ?_)
                            have hP : va_P D vwCl [(b_x, .inr (9, [.ref b_row, .ref b_part, .ref b_mem, .ref b_mrk, .ref b_sf, .ref b_ss, .ref b_sr, .int m_on, .ref b_h, .int m_hc, .ref b_r, .int m_pc, .ref b_in, .int m_giv, .int m_tak, .ref b_out, .int m_put, .int m_st, .int m_cu, .int m_va, .int m_sp, .int m_un, .ref b_k, .int m_kc, .int m_kn, .int m_by, .int m_kd, .int m_tg, .int m_ju])), (b_row, .inl (tc 0, 2400, .inl rowT)), (b_part, .inl (tc 0, 4, .inl (upd m_part (1 : Int32).toNatClampNeg 0)))] H := hP
                            have hD : va_D A [(b_x, .inr (9, [.ref b_row, .ref b_part, .ref b_mem, .ref b_mrk, .ref b_sf, .ref b_ss, .ref b_sr, .int m_on, .ref b_h, .int m_hc, .ref b_r, .int m_pc, .ref b_in, .int m_giv, .int m_tak, .ref b_out, .int m_put, .int m_st, .int m_cu, .int m_va, .int m_sp, .int m_un, .ref b_k, .int m_kc, .int m_kn, .int m_by, .int m_kd, .int m_tg, .int m_ju])), (b_row, .inl (tc 0, 2400, .inl rowT)), (b_part, .inl (tc 0, 4, .inl (upd m_part (1 : Int32).toNatClampNeg 0)))] := hD
                            refine lv_iload_n hx hb d_M_stretch_140 rfl (lv_at hl 4 rfl) ?_
                            refine lv_bipush (v := 51) hx hb d_M_stretch_141 (by decide) ?_
                            refine lv_icmp_eq (tgt := 158) hx hb d_M_stretch_143 (by decide) (fun c_143 => absurd c_143 c_118) (fun c_143 => ?_)
                            refine lv_iload_n hx hb d_M_stretch_146 rfl (lv_at hl 4 rfl) ?_
                            refine lv_bipush (v := 64) hx hb d_M_stretch_147 (by decide) ?_
                            refine lv_icmp_eq (tgt := 158) hx hb d_M_stretch_149 (by decide) (fun c_149 => absurd c_149 (by rw [c_124]; decide)) (fun c_149 => ?_)
                            refine lv_iload_n hx hb d_M_stretch_152 rfl (lv_at hl 4 rfl) ?_
                            refine lv_bipush (v := 69) hx hb d_M_stretch_153 (by decide) ?_
                            refine lv_icmp_ne (tgt := 165) hx hb d_M_stretch_155 (by decide) (fun c_155 => ?_) (fun c_155 => absurd c_155 (by rw [c_124]; decide))
                            refine lv_iload_n hx hb d_M_stretch_165 rfl (lv_at hl 4 rfl) ?_
                            refine lv_bipush (v := 53) hx hb d_M_stretch_166 (by decide) ?_
                            refine lv_icmp_eq (tgt := 177) hx hb d_M_stretch_168 (by decide) (fun c_168 => absurd c_168 (by rw [c_124]; decide)) (fun c_168 => ?_)
                            refine lv_iload_n hx hb d_M_stretch_171 rfl (lv_at hl 4 rfl) ?_
                            refine lv_bipush (v := 72) hx hb d_M_stretch_172 (by decide) ?_
                            refine lv_icmp_ne (tgt := 184) hx hb d_M_stretch_174 (by decide) (fun c_174 => ?_) (fun c_174 => absurd c_174 (by rw [c_124]; decide))
                            refine lv_iload_n hx hb d_M_stretch_184 rfl (lv_at hl 4 rfl) ?_
                            refine lv_bipush (v := 55) hx hb d_M_stretch_185 (by decide) ?_
                            refine lv_icmp_ne (tgt := 197) hx hb d_M_stretch_187 (by decide) (fun c_187 => ?_) (fun c_187 => absurd c_187 c_70)
                            refine lv_iload_n hx hb d_M_stretch_197 rfl (lv_at hl 4 rfl) ?_
                            refine lv_bipush (v := 65) hx hb d_M_stretch_198 (by decide) ?_
                            refine lv_icmp_eq (tgt := 209) hx hb d_M_stretch_200 (by decide) (fun c_200 => absurd c_200 (by rw [c_124]; decide)) (fun c_200 => ?_)
                            refine lv_iload_n hx hb d_M_stretch_203 rfl (lv_at hl 4 rfl) ?_
                            refine lv_bipush (v := 66) hx hb d_M_stretch_204 (by decide) ?_
                            refine lv_icmp_ne (tgt := 216) hx hb d_M_stretch_206 (by decide) (fun c_206 => ?_) (fun c_206 => absurd c_206 (by rw [c_124]; decide))
                            refine lv_iload_n hx hb d_M_stretch_216 rfl (lv_at hl 4 rfl) ?_
                            refine lv_bipush (v := 51) hx hb d_M_stretch_217 (by decide) ?_
                            refine lv_icmp_eq (tgt := 234) hx hb d_M_stretch_219 (by decide) (fun c_219 => absurd c_219 c_118) (fun c_219 => ?_)
                            refine lv_iload_n hx hb d_M_stretch_222 rfl (lv_at hl 4 rfl) ?_
                            refine lv_bipush (v := 69) hx hb d_M_stretch_223 (by decide) ?_
                            refine lv_icmp_eq (tgt := 234) hx hb d_M_stretch_225 (by decide) (fun c_225 => absurd c_225 (by rw [c_124]; decide)) (fun c_225 => ?_)
                            refine lv_iload_n hx hb d_M_stretch_228 rfl (lv_at hl 4 rfl) ?_
                            refine lv_bipush (v := 72) hx hb d_M_stretch_229 (by decide) ?_
                            refine lv_icmp_ne (tgt := 241) hx hb d_M_stretch_231 (by decide) (fun c_231 => ?_) (fun c_231 => absurd c_231 (by rw [c_124]; decide))
                            refine lv_aload_n hx hb d_M_stretch_241 rfl (lv_at hl 3 rfl) ?_
                            refine lv_iload_n hx hb d_M_stretch_242 rfl (lv_at hl 4 rfl) ?_
                            refine roSi (As := [.int x0]) (rest := [.ref b_x]) ⟨hx, hb, hml, hown, hts⟩ (mc_StepMachineModel_longKind l D tc tb z0 x0) (va_cwS 1 hts (goodS a_827 a_828 a_10 a_829) rfl rfl rfl hs_M_longKind ⟨Nat.le_of_ble_eq_true rfl, Nat.le_of_ble_eq_true rfl⟩) (hP.sub [] rfl) hK (hB.kept hS hZ) rfl hl.1 rfl (Nat.le_of_ble_eq_true rfl) d_M_stretch_243 ⟨Nat.zero_le _, Nat.zero_le _⟩ ?_
                            refine roVi (As := [.int (mF_StepMachineModel_longKind x0)]) (rest := []) ⟨hx, hb, hml, hown, hts⟩ (mc_StepMachineModel_put l D tc tb z0 b_x b_row b_part b_mem b_mrk b_sf b_ss b_sr b_h b_r b_in b_out b_k m_on m_hc m_pc m_giv m_tak m_put m_st m_cu m_va m_sp m_un m_kc m_kn m_by m_kd m_tg m_ju (upd m_part (1 : Int32).toNatClampNeg 0) (mF_StepMachineModel_longKind x0) (lk_rng _)) (cwV 1 hts (goodV a_830 a_831 a_934 a_10 a_832) rfl rfl rfl hv_M_put ⟨Nat.le_of_ble_eq_true rfl, Nat.le_of_ble_eq_true rfl⟩) (hP.sub [0, 1, 2] rfl) hK (hB.kept hS hZ) rfl rfl rfl hl.1 rfl (Nat.le_of_ble_eq_true rfl) d_M_stretch_246 ⟨Nat.zero_le _, Nat.zero_le _⟩ ?_
                            exact W.iret (v := (mF_StepMachineModel_put (upd m_part (1 : Int32).toNatClampNeg 0) (mF_StepMachineModel_longKind x0))) hx hb hr (fun t ht hW => ⟨⟨_, (upd m_part (1 : Int32).toNatClampNeg 0), rfl, by rw [mF_StepMachineModel_stretch, if_neg c_10, if_neg c_16, if_neg c_22, if_neg c_28, if_pos c_34, if_neg c_46, if_neg c_52, if_neg c_64, if_neg c_70, if_neg c_76, if_neg c_82, if_neg c_118, if_pos c_124], by rw [ht]; exact hP, va_K.moved hW.alike hK, hD⟩, hS.F ht⟩) hS.2.2 d_M_stretch_249
                          · skip
                            refine lv_iload_n hx hb d_M_stretch_127 rfl (lv_at hl 4 rfl) ?_
                            refine lv_bipush (v := 70) hx hb d_M_stretch_128 (by decide) ?_
                            refine lv_icmp_ne (tgt := 140) hx hb d_M_stretch_130 (by decide) (fun c_130 => ?_) (fun c_130 => ?_)
                            · skip
                              refine lv_iload_n hx hb d_M_stretch_140 rfl (lv_at hl 4 rfl) ?_
                              refine lv_bipush (v := 51) hx hb d_M_stretch_141 (by decide) ?_
                              refine lv_icmp_eq (tgt := 158) hx hb d_M_stretch_143 (by decide) (fun c_143 => absurd c_143 c_118) (fun c_143 => ?_)
                              refine lv_iload_n hx hb d_M_stretch_146 rfl (lv_at hl 4 rfl) ?_
                              refine lv_bipush (v := 64) hx hb d_M_stretch_147 (by decide) ?_
                              refine lv_icmp_eq (tgt := 158) hx hb d_M_stretch_149 (by decide) (fun c_149 => ?_) (fun c_149 => ?_)
                              · skip
                                refine lv_aload_n hx hb d_M_stretch_158 rfl (lv_at hl 3 rfl) ?_
                                refine va_get (D := D) (ci := 9) (v := .ref b_part) (C := "StepMachineModel") (T := TX9) (N := 29) hx hb hts inU_9 hown hK hP 0 rfl rfl 1 (by decide) (hts _ a_634) (fun _ h9 => h9) rfl d_M_stretch_159 ?_
                                refine lv_iconst (v := 0) hx hb d_M_stretch_162 (by decide) ?_
                                refine lv_iconst (v := 0) hx hb d_M_stretch_163 (by decide) ?_
                                refine va_iast hx hb hK hP hD hS 2 0 rfl rfl (vp_in_nI (n := 0) (N := 4) (by decide) (by decide)) d_M_stretch_164 (fun H locs hP hD hS => ?_)
                                have hP : va_P D vwCl [(b_x, .inr (9, [.ref b_row, .ref b_part, .ref b_mem, .ref b_mrk, .ref b_sf, .ref b_ss, .ref b_sr, .int m_on, .ref b_h, .int m_hc, .ref b_r, .int m_pc, .ref b_in, .int m_giv, .int m_tak, .ref b_out, .int m_put, .int m_st, .int m_cu, .int m_va, .int m_sp, .int m_un, .ref b_k, .int m_kc, .int m_kn, .int m_by, .int m_kd, .int m_tg, .int m_ju])), (b_row, .inl (tc 0, 2400, .inl rowT)), (b_part, .inl (tc 0, 4, .inl (upd m_part (0 : Int32).toNatClampNeg 0)))] H := hP
                                have hD : va_D A [(b_x, .inr (9, [.ref b_row, .ref b_part, .ref b_mem, .ref b_mrk, .ref b_sf, .ref b_ss, .ref b_sr, .int m_on, .ref b_h, .int m_hc, .ref b_r, .int m_pc, .ref b_in, .int m_giv, .int m_tak, .ref b_out, .int m_put, .int m_st, .int m_cu, .int m_va, .int m_sp, .int m_un, .ref b_k, .int m_kc, .int m_kn, .int m_by, .int m_kd, .int m_tg, .int m_ju])), (b_row, .inl (tc 0, 2400, .inl rowT)), (b_part, .inl (tc 0, 4, .inl (upd m_part (0 : Int32).toNatClampNeg 0)))] := hD
                                refine lv_iload_n hx hb d_M_stretch_165 rfl (lv_at hl 4 rfl) ?_
                                refine lv_bipush (v := 53) hx hb d_M_stretch_166 (by decide) ?_
                                refine lv_icmp_eq (tgt := 177) hx hb d_M_stretch_168 (by decide) (fun c_168 => absurd c_168 (by rw [c_149]; decide)) (fun c_168 => ?_)
                                refine lv_iload_n hx hb d_M_stretch_171 rfl (lv_at hl 4 rfl) ?_
                                refine lv_bipush (v := 72) hx hb d_M_stretch_172 (by decide) ?_
                                refine lv_icmp_ne (tgt := 184) hx hb d_M_stretch_174 (by decide) (fun c_174 => ?_) (fun c_174 => absurd c_174 (by rw [c_149]; decide))
                                refine lv_iload_n hx hb d_M_stretch_184 rfl (lv_at hl 4 rfl) ?_
                                refine lv_bipush (v := 55) hx hb d_M_stretch_185 (by decide) ?_
                                refine lv_icmp_ne (tgt := 197) hx hb d_M_stretch_187 (by decide) (fun c_187 => ?_) (fun c_187 => absurd c_187 c_70)
                                refine lv_iload_n hx hb d_M_stretch_197 rfl (lv_at hl 4 rfl) ?_
                                refine lv_bipush (v := 65) hx hb d_M_stretch_198 (by decide) ?_
                                refine lv_icmp_eq (tgt := 209) hx hb d_M_stretch_200 (by decide) (fun c_200 => absurd c_200 (by rw [c_149]; decide)) (fun c_200 => ?_)
                                refine lv_iload_n hx hb d_M_stretch_203 rfl (lv_at hl 4 rfl) ?_
                                refine lv_bipush (v := 66) hx hb d_M_stretch_204 (by decide) ?_
                                refine lv_icmp_ne (tgt := 216) hx hb d_M_stretch_206 (by decide) (fun c_206 => ?_) (fun c_206 => absurd c_206 (by rw [c_149]; decide))
                                refine lv_iload_n hx hb d_M_stretch_216 rfl (lv_at hl 4 rfl) ?_
                                refine lv_bipush (v := 51) hx hb d_M_stretch_217 (by decide) ?_
                                refine lv_icmp_eq (tgt := 234) hx hb d_M_stretch_219 (by decide) (fun c_219 => absurd c_219 c_118) (fun c_219 => ?_)
                                refine lv_iload_n hx hb d_M_stretch_222 rfl (lv_at hl 4 rfl) ?_
                                refine lv_bipush (v := 69) hx hb d_M_stretch_223 (by decide) ?_
                                refine lv_icmp_eq (tgt := 234) hx hb d_M_stretch_225 (by decide) (fun c_225 => absurd c_225 (by rw [c_149]; decide)) (fun c_225 => ?_)
                                refine lv_iload_n hx hb d_M_stretch_228 rfl (lv_at hl 4 rfl) ?_
                                refine lv_bipush (v := 72) hx hb d_M_stretch_229 (by decide) ?_
                                refine lv_icmp_ne (tgt := 241) hx hb d_M_stretch_231 (by decide) (fun c_231 => ?_) (fun c_231 => absurd c_231 (by rw [c_149]; decide))
                                refine lv_aload_n hx hb d_M_stretch_241 rfl (lv_at hl 3 rfl) ?_
                                refine lv_iload_n hx hb d_M_stretch_242 rfl (lv_at hl 4 rfl) ?_
                                refine roSi (As := [.int x0]) (rest := [.ref b_x]) ⟨hx, hb, hml, hown, hts⟩ (mc_StepMachineModel_longKind l D tc tb z0 x0) (va_cwS 1 hts (goodS a_827 a_828 a_10 a_829) rfl rfl rfl hs_M_longKind ⟨Nat.le_of_ble_eq_true rfl, Nat.le_of_ble_eq_true rfl⟩) (hP.sub [] rfl) hK (hB.kept hS hZ) rfl hl.1 rfl (Nat.le_of_ble_eq_true rfl) d_M_stretch_243 ⟨Nat.zero_le _, Nat.zero_le _⟩ ?_
                                refine roVi (As := [.int (mF_StepMachineModel_longKind x0)]) (rest := []) ⟨hx, hb, hml, hown, hts⟩ (mc_StepMachineModel_put l D tc tb z0 b_x b_row b_part b_mem b_mrk b_sf b_ss b_sr b_h b_r b_in b_out b_k m_on m_hc m_pc m_giv m_tak m_put m_st m_cu m_va m_sp m_un m_kc m_kn m_by m_kd m_tg m_ju (upd m_part (0 : Int32).toNatClampNeg 0) (mF_StepMachineModel_longKind x0) (lk_rng _)) (cwV 1 hts (goodV a_830 a_831 a_934 a_10 a_832) rfl rfl rfl hv_M_put ⟨Nat.le_of_ble_eq_true rfl, Nat.le_of_ble_eq_true rfl⟩) (hP.sub [0, 1, 2] rfl) hK (hB.kept hS hZ) rfl rfl rfl hl.1 rfl (Nat.le_of_ble_eq_true rfl) d_M_stretch_246 ⟨Nat.zero_le _, Nat.zero_le _⟩ ?_
                                exact W.iret (v := (mF_StepMachineModel_put (upd m_part (0 : Int32).toNatClampNeg 0) (mF_StepMachineModel_longKind x0))) hx hb hr (fun t ht hW => ⟨⟨_, (upd m_part (0 : Int32).toNatClampNeg 0), rfl, by rw [mF_StepMachineModel_stretch, if_neg c_10, if_neg c_16, if_neg c_22, if_neg c_28, if_pos c_34, if_neg c_46, if_neg c_52, if_neg c_64, if_neg c_70, if_neg c_76, if_neg c_82, if_neg c_118, if_neg c_124, if_neg c_130, if_pos c_149], by rw [ht]; exact hP, va_K.moved hW.alike hK, hD⟩, hS.F ht⟩) hS.2.2 d_M_stretch_249
                              · skip
                                refine lv_iload_n hx hb d_M_stretch_152 rfl (lv_at hl 4 rfl) ?_
                                refine lv_bipush (v := 69) hx hb d_M_stretch_153 (by decide) ?_
                                refine lv_icmp_ne (tgt := 165) hx hb d_M_stretch_155 (by decide) (fun c_155 => ?_) (fun c_155 => ?_)
                                · skip
                                  refine lv_iload_n hx hb d_M_stretch_165 rfl (lv_at hl 4 rfl) ?_
                                  refine lv_bipush (v := 53) hx hb d_M_stretch_166 (by decide) ?_
                                  refine lv_icmp_eq (tgt := 177) hx hb d_M_stretch_168 (by decide) (fun c_168 => ?_) (fun c_168 => ?_)
                                  · skip
                                    refine lv_aload_n hx hb d_M_stretch_177 rfl (lv_at hl 3 rfl) ?_
                                    refine va_get (D := D) (ci := 9) (v := .ref b_part) (C := "StepMachineModel") (T := TX9) (N := 29) hx hb hts inU_9 hown hK hP 0 rfl rfl 1 (by decide) (hts _ a_634) (fun _ h9 => h9) rfl d_M_stretch_178 ?_
                                    refine lv_iconst (v := 0) hx hb d_M_stretch_181 (by decide) ?_
                                    refine lv_iconst (v := 1) hx hb d_M_stretch_182 (by decide) ?_
                                    refine va_iast hx hb hK hP hD hS 2 0 rfl rfl (vp_in_nI (n := 0) (N := 4) (by decide) (by decide)) d_M_stretch_183 (fun H locs hP hD hS => ?_)
                                    have hP : va_P D vwCl [(b_x, .inr (9, [.ref b_row, .ref b_part, .ref b_mem, .ref b_mrk, .ref b_sf, .ref b_ss, .ref b_sr, .int m_on, .ref b_h, .int m_hc, .ref b_r, .int m_pc, .ref b_in, .int m_giv, .int m_tak, .ref b_out, .int m_put, .int m_st, .int m_cu, .int m_va, .int m_sp, .int m_un, .ref b_k, .int m_kc, .int m_kn, .int m_by, .int m_kd, .int m_tg, .int m_ju])), (b_row, .inl (tc 0, 2400, .inl rowT)), (b_part, .inl (tc 0, 4, .inl (upd m_part (0 : Int32).toNatClampNeg 1)))] H := hP
                                    have hD : va_D A [(b_x, .inr (9, [.ref b_row, .ref b_part, .ref b_mem, .ref b_mrk, .ref b_sf, .ref b_ss, .ref b_sr, .int m_on, .ref b_h, .int m_hc, .ref b_r, .int m_pc, .ref b_in, .int m_giv, .int m_tak, .ref b_out, .int m_put, .int m_st, .int m_cu, .int m_va, .int m_sp, .int m_un, .ref b_k, .int m_kc, .int m_kn, .int m_by, .int m_kd, .int m_tg, .int m_ju])), (b_row, .inl (tc 0, 2400, .inl rowT)), (b_part, .inl (tc 0, 4, .inl (upd m_part (0 : Int32).toNatClampNeg 1)))] := hD
                                    refine lv_iload_n hx hb d_M_stretch_184 rfl (lv_at hl 4 rfl) ?_
                                    refine lv_bipush (v := 55) hx hb d_M_stretch_185 (by decide) ?_
                                    refine lv_icmp_ne (tgt := 197) hx hb d_M_stretch_187 (by decide) (fun c_187 => ?_) (fun c_187 => absurd c_187 c_70)
                                    refine lv_iload_n hx hb d_M_stretch_197 rfl (lv_at hl 4 rfl) ?_
                                    refine lv_bipush (v := 65) hx hb d_M_stretch_198 (by decide) ?_
                                    refine lv_icmp_eq (tgt := 209) hx hb d_M_stretch_200 (by decide) (fun c_200 => absurd c_200 (by rw [c_168]; decide)) (fun c_200 => ?_)
                                    refine lv_iload_n hx hb d_M_stretch_203 rfl (lv_at hl 4 rfl) ?_
                                    refine lv_bipush (v := 66) hx hb d_M_stretch_204 (by decide) ?_
                                    refine lv_icmp_ne (tgt := 216) hx hb d_M_stretch_206 (by decide) (fun c_206 => ?_) (fun c_206 => absurd c_206 (by rw [c_168]; decide))
                                    refine lv_iload_n hx hb d_M_stretch_216 rfl (lv_at hl 4 rfl) ?_
                                    refine lv_bipush (v := 51) hx hb d_M_stretch_217 (by decide) ?_
                                    refine lv_icmp_eq (tgt := 234) hx hb d_M_stretch_219 (by decide) (fun c_219 => absurd c_219 c_118) (fun c_219 => ?_)
                                    refine lv_iload_n hx hb d_M_stretch_222 rfl (lv_at hl 4 rfl) ?_
                                    refine lv_bipush (v := 69) hx hb d_M_stretch_223 (by decide) ?_
                                    refine lv_icmp_eq (tgt := 234) hx hb d_M_stretch_225 (by decide) (fun c_225 => absurd c_225 c_155) (fun c_225 => ?_)
                                    refine lv_iload_n hx hb d_M_stretch_228 rfl (lv_at hl 4 rfl) ?_
                                    refine lv_bipush (v := 72) hx hb d_M_stretch_229 (by decide) ?_
                                    refine lv_icmp_ne (tgt := 241) hx hb d_M_stretch_231 (by decide) (fun c_231 => ?_) (fun c_231 => absurd c_231 (by rw [c_168]; decide))
                                    refine lv_aload_n hx hb d_M_stretch_241 rfl (lv_at hl 3 rfl) ?_
                                    refine lv_iload_n hx hb d_M_stretch_242 rfl (lv_at hl 4 rfl) ?_
                                    refine roSi (As := [.int x0]) (rest := [.ref b_x]) ⟨hx, hb, hml, hown, hts⟩ (mc_StepMachineModel_longKind l D tc tb z0 x0) (va_cwS 1 hts (goodS a_827 a_828 a_10 a_829) rfl rfl rfl hs_M_longKind ⟨Nat.le_of_ble_eq_true rfl, Nat.le_of_ble_eq_true rfl⟩) (hP.sub [] rfl) hK (hB.kept hS hZ) rfl hl.1 rfl (Nat.le_of_ble_eq_true rfl) d_M_stretch_243 ⟨Nat.zero_le _, Nat.zero_le _⟩ ?_
                                    refine roVi (As := [.int (mF_StepMachineModel_longKind x0)]) (rest := []) ⟨hx, hb, hml, hown, hts⟩ (mc_StepMachineModel_put l D tc tb z0 b_x b_row b_part b_mem b_mrk b_sf b_ss b_sr b_h b_r b_in b_out b_k m_on m_hc m_pc m_giv m_tak m_put m_st m_cu m_va m_sp m_un m_kc m_kn m_by m_kd m_tg m_ju (upd m_part (0 : Int32).toNatClampNeg 1) (mF_StepMachineModel_longKind x0) (lk_rng _)) (cwV 1 hts (goodV a_830 a_831 a_934 a_10 a_832) rfl rfl rfl hv_M_put ⟨Nat.le_of_ble_eq_true rfl, Nat.le_of_ble_eq_true rfl⟩) (hP.sub [0, 1, 2] rfl) hK (hB.kept hS hZ) rfl rfl rfl hl.1 rfl (Nat.le_of_ble_eq_true rfl) d_M_stretch_246 ⟨Nat.zero_le _, Nat.zero_le _⟩ ?_
                                    exact W.iret (v := (mF_StepMachineModel_put (upd m_part (0 : Int32).toNatClampNeg 1) (mF_StepMachineModel_longKind x0))) hx hb hr (fun t ht hW => ⟨⟨_, (upd m_part (0 : Int32).toNatClampNeg 1), rfl, by rw [mF_StepMachineModel_stretch, if_neg c_10, if_neg c_16, if_neg c_22, if_neg c_28, if_pos c_34, if_neg c_46, if_neg c_52, if_neg c_64, if_neg c_70, if_neg c_76, if_neg c_82, if_neg c_118, if_neg c_124, if_neg c_130, if_neg c_149, if_neg c_155, if_pos c_168], by rw [ht]; exact hP, va_K.moved hW.alike hK, hD⟩, hS.F ht⟩) hS.2.2 d_M_stretch_249
                                  · skip
                                    refine lv_iload_n hx hb d_M_stretch_171 rfl (lv_at hl 4 rfl) ?_
                                    refine lv_bipush (v := 72) hx hb d_M_stretch_172 (by decide) ?_
                                    refine lv_icmp_ne (tgt := 184) hx hb d_M_stretch_174 (by decide) (fun c_174 => ?_) (fun c_174 => ?_)
                                    · skip
                                      refine lv_iload_n hx hb d_M_stretch_184 rfl (lv_at hl 4 rfl) ?_
                                      refine lv_bipush (v := 55) hx hb d_M_stretch_185 (by decide) ?_
                                      refine lv_icmp_ne (tgt := 197) hx hb d_M_stretch_187 (by decide) (fun c_187 => ?_) (fun c_187 => absurd c_187 c_70)
                                      refine lv_iload_n hx hb d_M_stretch_197 rfl (lv_at hl 4 rfl) ?_
                                      refine lv_bipush (v := 65) hx hb d_M_stretch_198 (by decide) ?_
                                      refine lv_icmp_eq (tgt := 209) hx hb d_M_stretch_200 (by decide) (fun c_200 => ?_) (fun c_200 => ?_)
                                      · skip
                                        refine lv_aload_n hx hb d_M_stretch_209 rfl (lv_at hl 3 rfl) ?_
                                        refine va_get (D := D) (ci := 9) (v := .ref b_part) (C := "StepMachineModel") (T := TX9) (N := 29) hx hb hts inU_9 hown hK hP 0 rfl rfl 1 (by decide) (hts _ a_634) (fun _ h9 => h9) rfl d_M_stretch_210 ?_
                                        refine lv_iconst (v := 2) hx hb d_M_stretch_213 (by decide) ?_
                                        refine lv_iconst (v := 0) hx hb d_M_stretch_214 (by decide) ?_
                                        refine va_iast hx hb hK hP hD hS 2 0 rfl rfl (vp_in_nI (n := 2) (N := 4) (by decide) (by decide)) d_M_stretch_215 (fun H locs hP hD hS => ?_)
                                        have hP : va_P D vwCl [(b_x, .inr (9, [.ref b_row, .ref b_part, .ref b_mem, .ref b_mrk, .ref b_sf, .ref b_ss, .ref b_sr, .int m_on, .ref b_h, .int m_hc, .ref b_r, .int m_pc, .ref b_in, .int m_giv, .int m_tak, .ref b_out, .int m_put, .int m_st, .int m_cu, .int m_va, .int m_sp, .int m_un, .ref b_k, .int m_kc, .int m_kn, .int m_by, .int m_kd, .int m_tg, .int m_ju])), (b_row, .inl (tc 0, 2400, .inl rowT)), (b_part, .inl (tc 0, 4, .inl (upd m_part (2 : Int32).toNatClampNeg 0)))] H := hP
                                        have hD : va_D A [(b_x, .inr (9, [.ref b_row, .ref b_part, .ref b_mem, .ref b_mrk, .ref b_sf, .ref b_ss, .ref b_sr, .int m_on, .ref b_h, .int m_hc, .ref b_r, .int m_pc, .ref b_in, .int m_giv, .int m_tak, .ref b_out, .int m_put, .int m_st, .int m_cu, .int m_va, .int m_sp, .int m_un, .ref b_k, .int m_kc, .int m_kn, .int m_by, .int m_kd, .int m_tg, .int m_ju])), (b_row, .inl (tc 0, 2400, .inl rowT)), (b_part, .inl (tc 0, 4, .inl (upd m_part (2 : Int32).toNatClampNeg 0)))] := hD
                                        refine lv_iload_n hx hb d_M_stretch_216 rfl (lv_at hl 4 rfl) ?_
                                        refine lv_bipush (v := 51) hx hb d_M_stretch_217 (by decide) ?_
                                        refine lv_icmp_eq (tgt := 234) hx hb d_M_stretch_219 (by decide) (fun c_219 => absurd c_219 c_118) (fun c_219 => ?_)
                                        refine lv_iload_n hx hb d_M_stretch_222 rfl (lv_at hl 4 rfl) ?_
                                        refine lv_bipush (v := 69) hx hb d_M_stretch_223 (by decide) ?_
                                        refine lv_icmp_eq (tgt := 234) hx hb d_M_stretch_225 (by decide) (fun c_225 => absurd c_225 c_155) (fun c_225 => ?_)
                                        refine lv_iload_n hx hb d_M_stretch_228 rfl (lv_at hl 4 rfl) ?_
                                        refine lv_bipush (v := 72) hx hb d_M_stretch_229 (by decide) ?_
                                        refine lv_icmp_ne (tgt := 241) hx hb d_M_stretch_231 (by decide) (fun c_231 => ?_) (fun c_231 => absurd c_231 c_174)
                                        refine lv_aload_n hx hb d_M_stretch_241 rfl (lv_at hl 3 rfl) ?_
                                        refine lv_iload_n hx hb d_M_stretch_242 rfl (lv_at hl 4 rfl) ?_
                                        refine roSi (As := [.int x0]) (rest := [.ref b_x]) ⟨hx, hb, hml, hown, hts⟩ (mc_StepMachineModel_longKind l D tc tb z0 x0) (va_cwS 1 hts (goodS a_827 a_828 a_10 a_829) rfl rfl rfl hs_M_longKind ⟨Nat.le_of_ble_eq_true rfl, Nat.le_of_ble_eq_true rfl⟩) (hP.sub [] rfl) hK (hB.kept hS hZ) rfl hl.1 rfl (Nat.le_of_ble_eq_true rfl) d_M_stretch_243 ⟨Nat.zero_le _, Nat.zero_le _⟩ ?_
                                        refine roVi (As := [.int (mF_StepMachineModel_longKind x0)]) (rest := []) ⟨hx, hb, hml, hown, hts⟩ (mc_StepMachineModel_put l D tc tb z0 b_x b_row b_part b_mem b_mrk b_sf b_ss b_sr b_h b_r b_in b_out b_k m_on m_hc m_pc m_giv m_tak m_put m_st m_cu m_va m_sp m_un m_kc m_kn m_by m_kd m_tg m_ju (upd m_part (2 : Int32).toNatClampNeg 0) (mF_StepMachineModel_longKind x0) (lk_rng _)) (cwV 1 hts (goodV a_830 a_831 a_934 a_10 a_832) rfl rfl rfl hv_M_put ⟨Nat.le_of_ble_eq_true rfl, Nat.le_of_ble_eq_true rfl⟩) (hP.sub [0, 1, 2] rfl) hK (hB.kept hS hZ) rfl rfl rfl hl.1 rfl (Nat.le_of_ble_eq_true rfl) d_M_stretch_246 ⟨Nat.zero_le _, Nat.zero_le _⟩ ?_
                                        exact W.iret (v := (mF_StepMachineModel_put (upd m_part (2 : Int32).toNatClampNeg 0) (mF_StepMachineModel_longKind x0))) hx hb hr (fun t ht hW => ⟨⟨_, (upd m_part (2 : Int32).toNatClampNeg 0), rfl, by rw [mF_StepMachineModel_stretch, if_neg c_10, if_neg c_16, if_neg c_22, if_neg c_28, if_pos c_34, if_neg c_46, if_neg c_52, if_neg c_64, if_neg c_70, if_neg c_76, if_neg c_82, if_neg c_118, if_neg c_124, if_neg c_130, if_neg c_149, if_neg c_155, if_neg c_168, if_neg c_174, if_pos c_200], by rw [ht]; exact hP, va_K.moved hW.alike hK, hD⟩, hS.F ht⟩) hS.2.2 d_M_stretch_249
                                      · skip
                                        refine lv_iload_n hx hb d_M_stretch_203 rfl (lv_at hl 4 rfl) ?_
                                        refine lv_bipush (v := 66) hx hb d_M_stretch_204 (by decide) ?_
                                        refine lv_icmp_ne (tgt := 216) hx hb d_M_stretch_206 (by decide) (fun c_206 => ?_) (fun c_206 => ?_)
                                        · skip
                                          refine lv_iload_n hx hb d_M_stretch_216 rfl (lv_at hl 4 rfl) ?_
                                          refine lv_bipush (v := 51) hx hb d_M_stretch_217 (by decide) ?_
                                          refine lv_icmp_eq (tgt := 234) hx hb d_M_stretch_219 (by decide) (fun c_219 => absurd c_219 c_118) (fun c_219 => ?_)
                                          refine lv_iload_n hx hb d_M_stretch_222 rfl (lv_at hl 4 rfl) ?_
                                          refine lv_bipush (v := 69) hx hb d_M_stretch_223 (by decide) ?_
                                          refine lv_icmp_eq (tgt := 234) hx hb d_M_stretch_225 (by decide) (fun c_225 => absurd c_225 c_155) (fun c_225 => ?_)
                                          refine lv_iload_n hx hb d_M_stretch_228 rfl (lv_at hl 4 rfl) ?_
                                          refine lv_bipush (v := 72) hx hb d_M_stretch_229 (by decide) ?_
                                          refine lv_icmp_ne (tgt := 241) hx hb d_M_stretch_231 (by decide) (fun c_231 => ?_) (fun c_231 => absurd c_231 c_174)
                                          refine lv_aload_n hx hb d_M_stretch_241 rfl (lv_at hl 3 rfl) ?_
                                          refine lv_iload_n hx hb d_M_stretch_242 rfl (lv_at hl 4 rfl) ?_
                                          refine roSi (As := [.int x0]) (rest := [.ref b_x]) ⟨hx, hb, hml, hown, hts⟩ (mc_StepMachineModel_longKind l D tc tb z0 x0) (va_cwS 1 hts (goodS a_827 a_828 a_10 a_829) rfl rfl rfl hs_M_longKind ⟨Nat.le_of_ble_eq_true rfl, Nat.le_of_ble_eq_true rfl⟩) (hP.sub [] rfl) hK (hB.kept hS hZ) rfl hl.1 rfl (Nat.le_of_ble_eq_true rfl) d_M_stretch_243 ⟨Nat.zero_le _, Nat.zero_le _⟩ ?_
                                          refine roVi (As := [.int (mF_StepMachineModel_longKind x0)]) (rest := []) ⟨hx, hb, hml, hown, hts⟩ (mc_StepMachineModel_put l D tc tb z0 b_x b_row b_part b_mem b_mrk b_sf b_ss b_sr b_h b_r b_in b_out b_k m_on m_hc m_pc m_giv m_tak m_put m_st m_cu m_va m_sp m_un m_kc m_kn m_by m_kd m_tg m_ju m_part (mF_StepMachineModel_longKind x0) (lk_rng _)) (cwV 1 hts (goodV a_830 a_831 a_934 a_10 a_832) rfl rfl rfl hv_M_put ⟨Nat.le_of_ble_eq_true rfl, Nat.le_of_ble_eq_true rfl⟩) (hP.sub [0, 1, 2] rfl) hK (hB.kept hS hZ) rfl rfl rfl hl.1 rfl (Nat.le_of_ble_eq_true rfl) d_M_stretch_246 ⟨Nat.zero_le _, Nat.zero_le _⟩ ?_
                                          exact W.iret (v := (mF_StepMachineModel_put m_part (mF_StepMachineModel_longKind x0))) hx hb hr (fun t ht hW => ⟨⟨_, m_part, rfl, by rw [mF_StepMachineModel_stretch, if_neg c_10, if_neg c_16, if_neg c_22, if_neg c_28, if_pos c_34, if_neg c_46, if_neg c_52, if_neg c_64, if_neg c_70, if_neg c_76, if_neg c_82, if_neg c_118, if_neg c_124, if_neg c_130, if_neg c_149, if_neg c_155, if_neg c_168, if_neg c_174, if_neg c_200, if_neg c_206], by rw [ht]; exact hP, va_K.moved hW.alike hK, hD⟩, hS.F ht⟩) hS.2.2 d_M_stretch_249
                                        · skip
                                          refine lv_aload_n hx hb d_M_stretch_209 rfl (lv_at hl 3 rfl) ?_
                                          refine va_get (D := D) (ci := 9) (v := .ref b_part) (C := "StepMachineModel") (T := TX9) (N := 29) hx hb hts inU_9 hown hK hP 0 rfl rfl 1 (by decide) (hts _ a_634) (fun _ h9 => h9) rfl d_M_stretch_210 ?_
                                          refine lv_iconst (v := 2) hx hb d_M_stretch_213 (by decide) ?_
                                          refine lv_iconst (v := 0) hx hb d_M_stretch_214 (by decide) ?_
                                          refine va_iast hx hb hK hP hD hS 2 0 rfl rfl (vp_in_nI (n := 2) (N := 4) (by decide) (by decide)) d_M_stretch_215 (fun H locs hP hD hS => ?_)
                                          have hP : va_P D vwCl [(b_x, .inr (9, [.ref b_row, .ref b_part, .ref b_mem, .ref b_mrk, .ref b_sf, .ref b_ss, .ref b_sr, .int m_on, .ref b_h, .int m_hc, .ref b_r, .int m_pc, .ref b_in, .int m_giv, .int m_tak, .ref b_out, .int m_put, .int m_st, .int m_cu, .int m_va, .int m_sp, .int m_un, .ref b_k, .int m_kc, .int m_kn, .int m_by, .int m_kd, .int m_tg, .int m_ju])), (b_row, .inl (tc 0, 2400, .inl rowT)), (b_part, .inl (tc 0, 4, .inl (upd m_part (2 : Int32).toNatClampNeg 0)))] H := hP
                                          have hD : va_D A [(b_x, .inr (9, [.ref b_row, .ref b_part, .ref b_mem, .ref b_mrk, .ref b_sf, .ref b_ss, .ref b_sr, .int m_on, .ref b_h, .int m_hc, .ref b_r, .int m_pc, .ref b_in, .int m_giv, .int m_tak, .ref b_out, .int m_put, .int m_st, .int m_cu, .int m_va, .int m_sp, .int m_un, .ref b_k, .int m_kc, .int m_kn, .int m_by, .int m_kd, .int m_tg, .int m_ju])), (b_row, .inl (tc 0, 2400, .inl rowT)), (b_part, .inl (tc 0, 4, .inl (upd m_part (2 : Int32).toNatClampNeg 0)))] := hD
                                          refine lv_iload_n hx hb d_M_stretch_216 rfl (lv_at hl 4 rfl) ?_
                                          refine lv_bipush (v := 51) hx hb d_M_stretch_217 (by decide) ?_
                                          refine lv_icmp_eq (tgt := 234) hx hb d_M_stretch_219 (by decide) (fun c_219 => absurd c_219 c_118) (fun c_219 => ?_)
                                          refine lv_iload_n hx hb d_M_stretch_222 rfl (lv_at hl 4 rfl) ?_
                                          refine lv_bipush (v := 69) hx hb d_M_stretch_223 (by decide) ?_
                                          refine lv_icmp_eq (tgt := 234) hx hb d_M_stretch_225 (by decide) (fun c_225 => absurd c_225 c_155) (fun c_225 => ?_)
                                          refine lv_iload_n hx hb d_M_stretch_228 rfl (lv_at hl 4 rfl) ?_
                                          refine lv_bipush (v := 72) hx hb d_M_stretch_229 (by decide) ?_
                                          refine lv_icmp_ne (tgt := 241) hx hb d_M_stretch_231 (by decide) (fun c_231 => ?_) (fun c_231 => absurd c_231 c_174)
                                          refine lv_aload_n hx hb d_M_stretch_241 rfl (lv_at hl 3 rfl) ?_
                                          refine lv_iload_n hx hb d_M_stretch_242 rfl (lv_at hl 4 rfl) ?_
                                          refine roSi (As := [.int x0]) (rest := [.ref b_x]) ⟨hx, hb, hml, hown, hts⟩ (mc_StepMachineModel_longKind l D tc tb z0 x0) (va_cwS 1 hts (goodS a_827 a_828 a_10 a_829) rfl rfl rfl hs_M_longKind ⟨Nat.le_of_ble_eq_true rfl, Nat.le_of_ble_eq_true rfl⟩) (hP.sub [] rfl) hK (hB.kept hS hZ) rfl hl.1 rfl (Nat.le_of_ble_eq_true rfl) d_M_stretch_243 ⟨Nat.zero_le _, Nat.zero_le _⟩ ?_
                                          refine roVi (As := [.int (mF_StepMachineModel_longKind x0)]) (rest := []) ⟨hx, hb, hml, hown, hts⟩ (mc_StepMachineModel_put l D tc tb z0 b_x b_row b_part b_mem b_mrk b_sf b_ss b_sr b_h b_r b_in b_out b_k m_on m_hc m_pc m_giv m_tak m_put m_st m_cu m_va m_sp m_un m_kc m_kn m_by m_kd m_tg m_ju (upd m_part (2 : Int32).toNatClampNeg 0) (mF_StepMachineModel_longKind x0) (lk_rng _)) (cwV 1 hts (goodV a_830 a_831 a_934 a_10 a_832) rfl rfl rfl hv_M_put ⟨Nat.le_of_ble_eq_true rfl, Nat.le_of_ble_eq_true rfl⟩) (hP.sub [0, 1, 2] rfl) hK (hB.kept hS hZ) rfl rfl rfl hl.1 rfl (Nat.le_of_ble_eq_true rfl) d_M_stretch_246 ⟨Nat.zero_le _, Nat.zero_le _⟩ ?_
                                          exact W.iret (v := (mF_StepMachineModel_put (upd m_part (2 : Int32).toNatClampNeg 0) (mF_StepMachineModel_longKind x0))) hx hb hr (fun t ht hW => ⟨⟨_, (upd m_part (2 : Int32).toNatClampNeg 0), rfl, by rw [mF_StepMachineModel_stretch, if_neg c_10, if_neg c_16, if_neg c_22, if_neg c_28, if_pos c_34, if_neg c_46, if_neg c_52, if_neg c_64, if_neg c_70, if_neg c_76, if_neg c_82, if_neg c_118, if_neg c_124, if_neg c_130, if_neg c_149, if_neg c_155, if_neg c_168, if_neg c_174, if_neg c_200, if_pos c_206], by rw [ht]; exact hP, va_K.moved hW.alike hK, hD⟩, hS.F ht⟩) hS.2.2 d_M_stretch_249
                                    · skip
                                      refine lv_aload_n hx hb d_M_stretch_177 rfl (lv_at hl 3 rfl) ?_
                                      refine va_get (D := D) (ci := 9) (v := .ref b_part) (C := "StepMachineModel") (T := TX9) (N := 29) hx hb hts inU_9 hown hK hP 0 rfl rfl 1 (by decide) (hts _ a_634) (fun _ h9 => h9) rfl d_M_stretch_178 ?_
                                      refine lv_iconst (v := 0) hx hb d_M_stretch_181 (by decide) ?_
                                      refine lv_iconst (v := 1) hx hb d_M_stretch_182 (by decide) ?_
                                      refine va_iast hx hb hK hP hD hS 2 0 rfl rfl (vp_in_nI (n := 0) (N := 4) (by decide) (by decide)) d_M_stretch_183 (fun H locs hP hD hS => ?_)
                                      have hP : va_P D vwCl [(b_x, .inr (9, [.ref b_row, .ref b_part, .ref b_mem, .ref b_mrk, .ref b_sf, .ref b_ss, .ref b_sr, .int m_on, .ref b_h, .int m_hc, .ref b_r, .int m_pc, .ref b_in, .int m_giv, .int m_tak, .ref b_out, .int m_put, .int m_st, .int m_cu, .int m_va, .int m_sp, .int m_un, .ref b_k, .int m_kc, .int m_kn, .int m_by, .int m_kd, .int m_tg, .int m_ju])), (b_row, .inl (tc 0, 2400, .inl rowT)), (b_part, .inl (tc 0, 4, .inl (upd m_part (0 : Int32).toNatClampNeg 1)))] H := hP
                                      have hD : va_D A [(b_x, .inr (9, [.ref b_row, .ref b_part, .ref b_mem, .ref b_mrk, .ref b_sf, .ref b_ss, .ref b_sr, .int m_on, .ref b_h, .int m_hc, .ref b_r, .int m_pc, .ref b_in, .int m_giv, .int m_tak, .ref b_out, .int m_put, .int m_st, .int m_cu, .int m_va, .int m_sp, .int m_un, .ref b_k, .int m_kc, .int m_kn, .int m_by, .int m_kd, .int m_tg, .int m_ju])), (b_row, .inl (tc 0, 2400, .inl rowT)), (b_part, .inl (tc 0, 4, .inl (upd m_part (0 : Int32).toNatClampNeg 1)))] := hD
                                      refine lv_iload_n hx hb d_M_stretch_184 rfl (lv_at hl 4 rfl) ?_
                                      refine lv_bipush (v := 55) hx hb d_M_stretch_185 (by decide) ?_
                                      refine lv_icmp_ne (tgt := 197) hx hb d_M_stretch_187 (by decide) (fun c_187 => ?_) (fun c_187 => absurd c_187 c_70)
                                      refine lv_iload_n hx hb d_M_stretch_197 rfl (lv_at hl 4 rfl) ?_
                                      refine lv_bipush (v := 65) hx hb d_M_stretch_198 (by decide) ?_
                                      refine lv_icmp_eq (tgt := 209) hx hb d_M_stretch_200 (by decide) (fun c_200 => absurd c_200 (by rw [c_174]; decide)) (fun c_200 => ?_)
                                      refine lv_iload_n hx hb d_M_stretch_203 rfl (lv_at hl 4 rfl) ?_
                                      refine lv_bipush (v := 66) hx hb d_M_stretch_204 (by decide) ?_
                                      refine lv_icmp_ne (tgt := 216) hx hb d_M_stretch_206 (by decide) (fun c_206 => ?_) (fun c_206 => absurd c_206 (by rw [c_174]; decide))
                                      refine lv_iload_n hx hb d_M_stretch_216 rfl (lv_at hl 4 rfl) ?_
                                      refine lv_bipush (v := 51) hx hb d_M_stretch_217 (by decide) ?_
                                      refine lv_icmp_eq (tgt := 234) hx hb d_M_stretch_219 (by decide) (fun c_219 => absurd c_219 c_118) (fun c_219 => ?_)
                                      refine lv_iload_n hx hb d_M_stretch_222 rfl (lv_at hl 4 rfl) ?_
                                      refine lv_bipush (v := 69) hx hb d_M_stretch_223 (by decide) ?_
                                      refine lv_icmp_eq (tgt := 234) hx hb d_M_stretch_225 (by decide) (fun c_225 => absurd c_225 c_155) (fun c_225 => ?_)
                                      refine lv_iload_n hx hb d_M_stretch_228 rfl (lv_at hl 4 rfl) ?_
                                      refine lv_bipush (v := 72) hx hb d_M_stretch_229 (by decide) ?_
                                      refine lv_icmp_ne (tgt := 241) hx hb d_M_stretch_231 (by decide) (fun c_231 => absurd c_174 c_231) (fun c_231 => ?_)
                                      refine lv_aload_n hx hb d_M_stretch_234 rfl (lv_at hl 3 rfl) ?_
                                      refine va_get (D := D) (ci := 9) (v := .ref b_part) (C := "StepMachineModel") (T := TX9) (N := 29) hx hb hts inU_9 hown hK hP 0 rfl rfl 1 (by decide) (hts _ a_634) (fun _ h9 => h9) rfl d_M_stretch_235 ?_
                                      refine lv_iconst (v := 3) hx hb d_M_stretch_238 (by decide) ?_
                                      refine lv_iconst (v := 0) hx hb d_M_stretch_239 (by decide) ?_
                                      refine va_iast hx hb hK hP hD hS 2 0 rfl rfl (vp_in_nI (n := 3) (N := 4) (by decide) (by decide)) d_M_stretch_240 (fun H locs hP hD hS => ?_)
                                      have hP : va_P D vwCl [(b_x, .inr (9, [.ref b_row, .ref b_part, .ref b_mem, .ref b_mrk, .ref b_sf, .ref b_ss, .ref b_sr, .int m_on, .ref b_h, .int m_hc, .ref b_r, .int m_pc, .ref b_in, .int m_giv, .int m_tak, .ref b_out, .int m_put, .int m_st, .int m_cu, .int m_va, .int m_sp, .int m_un, .ref b_k, .int m_kc, .int m_kn, .int m_by, .int m_kd, .int m_tg, .int m_ju])), (b_row, .inl (tc 0, 2400, .inl rowT)), (b_part, .inl (tc 0, 4, .inl (upd (upd m_part (0 : Int32).toNatClampNeg 1) (3 : Int32).toNatClampNeg 0)))] H := hP
                                      have hD : va_D A [(b_x, .inr (9, [.ref b_row, .ref b_part, .ref b_mem, .ref b_mrk, .ref b_sf, .ref b_ss, .ref b_sr, .int m_on, .ref b_h, .int m_hc, .ref b_r, .int m_pc, .ref b_in, .int m_giv, .int m_tak, .ref b_out, .int m_put, .int m_st, .int m_cu, .int m_va, .int m_sp, .int m_un, .ref b_k, .int m_kc, .int m_kn, .int m_by, .int m_kd, .int m_tg, .int m_ju])), (b_row, .inl (tc 0, 2400, .inl rowT)), (b_part, .inl (tc 0, 4, .inl (upd (upd m_part (0 : Int32).toNatClampNeg 1) (3 : Int32).toNatClampNeg 0)))] := hD
                                      refine lv_aload_n hx hb d_M_stretch_241 rfl (lv_at hl 3 rfl) ?_
                                      refine lv_iload_n hx hb d_M_stretch_242 rfl (lv_at hl 4 rfl) ?_
                                      refine roSi (As := [.int x0]) (rest := [.ref b_x]) ⟨hx, hb, hml, hown, hts⟩ (mc_StepMachineModel_longKind l D tc tb z0 x0) (va_cwS 1 hts (goodS a_827 a_828 a_10 a_829) rfl rfl rfl hs_M_longKind ⟨Nat.le_of_ble_eq_true rfl, Nat.le_of_ble_eq_true rfl⟩) (hP.sub [] rfl) hK (hB.kept hS hZ) rfl hl.1 rfl (Nat.le_of_ble_eq_true rfl) d_M_stretch_243 ⟨Nat.zero_le _, Nat.zero_le _⟩ ?_
                                      refine roVi (As := [.int (mF_StepMachineModel_longKind x0)]) (rest := []) ⟨hx, hb, hml, hown, hts⟩ (mc_StepMachineModel_put l D tc tb z0 b_x b_row b_part b_mem b_mrk b_sf b_ss b_sr b_h b_r b_in b_out b_k m_on m_hc m_pc m_giv m_tak m_put m_st m_cu m_va m_sp m_un m_kc m_kn m_by m_kd m_tg m_ju (upd (upd m_part (0 : Int32).toNatClampNeg 1) (3 : Int32).toNatClampNeg 0) (mF_StepMachineModel_longKind x0) (lk_rng _)) (cwV 1 hts (goodV a_830 a_831 a_934 a_10 a_832) rfl rfl rfl hv_M_put ⟨Nat.le_of_ble_eq_true rfl, Nat.le_of_ble_eq_true rfl⟩) (hP.sub [0, 1, 2] rfl) hK (hB.kept hS hZ) rfl rfl rfl hl.1 rfl (Nat.le_of_ble_eq_true rfl) d_M_stretch_246 ⟨Nat.zero_le _, Nat.zero_le _⟩ ?_
                                      exact W.iret (v := (mF_StepMachineModel_put (upd (upd m_part (0 : Int32).toNatClampNeg 1) (3 : Int32).toNatClampNeg 0) (mF_StepMachineModel_longKind x0))) hx hb hr (fun t ht hW => ⟨⟨_, (upd (upd m_part (0 : Int32).toNatClampNeg 1) (3 : Int32).toNatClampNeg 0), rfl, by rw [mF_StepMachineModel_stretch, if_neg c_10, if_neg c_16, if_neg c_22, if_neg c_28, if_pos c_34, if_neg c_46, if_neg c_52, if_neg c_64, if_neg c_70, if_neg c_76, if_neg c_82, if_neg c_118, if_neg c_124, if_neg c_130, if_neg c_149, if_neg c_155, if_neg c_168, if_pos c_174], by rw [ht]; exact hP, va_K.moved hW.alike hK, hD⟩, hS.F ht⟩) hS.2.2 d_M_stretch_249
                                · skip
                                  refine lv_aload_n hx hb d_M_stretch_158 rfl (lv_at hl 3 rfl) ?_
                                  refine va_get (D := D) (ci := 9) (v := .ref b_part) (C := "StepMachineModel") (T := TX9) (N := 29) hx hb hts inU_9 hown hK hP 0 rfl rfl 1 (by decide) (hts _ a_634) (fun _ h9 => h9) rfl d_M_stretch_159 ?_
                                  refine lv_iconst (v := 0) hx hb d_M_stretch_162 (by decide) ?_
                                  refine lv_iconst (v := 0) hx hb d_M_stretch_163 (by decide) ?_
                                  refine va_iast hx hb hK hP hD hS 2 0 rfl rfl (vp_in_nI (n := 0) (N := 4) (by decide) (by decide)) d_M_stretch_164 (fun H locs hP hD hS => ?_)
                                  have hP : va_P D vwCl [(b_x, .inr (9, [.ref b_row, .ref b_part, .ref b_mem, .ref b_mrk, .ref b_sf, .ref b_ss, .ref b_sr, .int m_on, .ref b_h, .int m_hc, .ref b_r, .int m_pc, .ref b_in, .int m_giv, .int m_tak, .ref b_out, .int m_put, .int m_st, .int m_cu, .int m_va, .int m_sp, .int m_un, .ref b_k, .int m_kc, .int m_kn, .int m_by, .int m_kd, .int m_tg, .int m_ju])), (b_row, .inl (tc 0, 2400, .inl rowT)), (b_part, .inl (tc 0, 4, .inl (upd m_part (0 : Int32).toNatClampNeg 0)))] H := hP
                                  have hD : va_D A [(b_x, .inr (9, [.ref b_row, .ref b_part, .ref b_mem, .ref b_mrk, .ref b_sf, .ref b_ss, .ref b_sr, .int m_on, .ref b_h, .int m_hc, .ref b_r, .int m_pc, .ref b_in, .int m_giv, .int m_tak, .ref b_out, .int m_put, .int m_st, .int m_cu, .int m_va, .int m_sp, .int m_un, .ref b_k, .int m_kc, .int m_kn, .int m_by, .int m_kd, .int m_tg, .int m_ju])), (b_row, .inl (tc 0, 2400, .inl rowT)), (b_part, .inl (tc 0, 4, .inl (upd m_part (0 : Int32).toNatClampNeg 0)))] := hD
                                  refine lv_iload_n hx hb d_M_stretch_165 rfl (lv_at hl 4 rfl) ?_
                                  refine lv_bipush (v := 53) hx hb d_M_stretch_166 (by decide) ?_
                                  refine lv_icmp_eq (tgt := 177) hx hb d_M_stretch_168 (by decide) (fun c_168 => absurd c_168 (by rw [c_155]; decide)) (fun c_168 => ?_)
                                  refine lv_iload_n hx hb d_M_stretch_171 rfl (lv_at hl 4 rfl) ?_
                                  refine lv_bipush (v := 72) hx hb d_M_stretch_172 (by decide) ?_
                                  refine lv_icmp_ne (tgt := 184) hx hb d_M_stretch_174 (by decide) (fun c_174 => ?_) (fun c_174 => absurd c_174 (by rw [c_155]; decide))
                                  refine lv_iload_n hx hb d_M_stretch_184 rfl (lv_at hl 4 rfl) ?_
                                  refine lv_bipush (v := 55) hx hb d_M_stretch_185 (by decide) ?_
                                  refine lv_icmp_ne (tgt := 197) hx hb d_M_stretch_187 (by decide) (fun c_187 => ?_) (fun c_187 => absurd c_187 c_70)
                                  refine lv_iload_n hx hb d_M_stretch_197 rfl (lv_at hl 4 rfl) ?_
                                  refine lv_bipush (v := 65) hx hb d_M_stretch_198 (by decide) ?_
                                  refine lv_icmp_eq (tgt := 209) hx hb d_M_stretch_200 (by decide) (fun c_200 => absurd c_200 (by rw [c_155]; decide)) (fun c_200 => ?_)
                                  refine lv_iload_n hx hb d_M_stretch_203 rfl (lv_at hl 4 rfl) ?_
                                  refine lv_bipush (v := 66) hx hb d_M_stretch_204 (by decide) ?_
                                  refine lv_icmp_ne (tgt := 216) hx hb d_M_stretch_206 (by decide) (fun c_206 => ?_) (fun c_206 => absurd c_206 (by rw [c_155]; decide))
                                  refine lv_iload_n hx hb d_M_stretch_216 rfl (lv_at hl 4 rfl) ?_
                                  refine lv_bipush (v := 51) hx hb d_M_stretch_217 (by decide) ?_
                                  refine lv_icmp_eq (tgt := 234) hx hb d_M_stretch_219 (by decide) (fun c_219 => absurd c_219 c_118) (fun c_219 => ?_)
                                  refine lv_iload_n hx hb d_M_stretch_222 rfl (lv_at hl 4 rfl) ?_
                                  refine lv_bipush (v := 69) hx hb d_M_stretch_223 (by decide) ?_
                                  refine lv_icmp_eq (tgt := 234) hx hb d_M_stretch_225 (by decide) (fun c_225 => ?_) (fun c_225 => absurd c_155 c_225)
                                  refine lv_aload_n hx hb d_M_stretch_234 rfl (lv_at hl 3 rfl) ?_
                                  refine va_get (D := D) (ci := 9) (v := .ref b_part) (C := "StepMachineModel") (T := TX9) (N := 29) hx hb hts inU_9 hown hK hP 0 rfl rfl 1 (by decide) (hts _ a_634) (fun _ h9 => h9) rfl d_M_stretch_235 ?_
                                  refine lv_iconst (v := 3) hx hb d_M_stretch_238 (by decide) ?_
                                  refine lv_iconst (v := 0) hx hb d_M_stretch_239 (by decide) ?_
                                  refine va_iast hx hb hK hP hD hS 2 0 rfl rfl (vp_in_nI (n := 3) (N := 4) (by decide) (by decide)) d_M_stretch_240 (fun H locs hP hD hS => ?_)
                                  have hP : va_P D vwCl [(b_x, .inr (9, [.ref b_row, .ref b_part, .ref b_mem, .ref b_mrk, .ref b_sf, .ref b_ss, .ref b_sr, .int m_on, .ref b_h, .int m_hc, .ref b_r, .int m_pc, .ref b_in, .int m_giv, .int m_tak, .ref b_out, .int m_put, .int m_st, .int m_cu, .int m_va, .int m_sp, .int m_un, .ref b_k, .int m_kc, .int m_kn, .int m_by, .int m_kd, .int m_tg, .int m_ju])), (b_row, .inl (tc 0, 2400, .inl rowT)), (b_part, .inl (tc 0, 4, .inl (upd (upd m_part (0 : Int32).toNatClampNeg 0) (3 : Int32).toNatClampNeg 0)))] H := hP
                                  have hD : va_D A [(b_x, .inr (9, [.ref b_row, .ref b_part, .ref b_mem, .ref b_mrk, .ref b_sf, .ref b_ss, .ref b_sr, .int m_on, .ref b_h, .int m_hc, .ref b_r, .int m_pc, .ref b_in, .int m_giv, .int m_tak, .ref b_out, .int m_put, .int m_st, .int m_cu, .int m_va, .int m_sp, .int m_un, .ref b_k, .int m_kc, .int m_kn, .int m_by, .int m_kd, .int m_tg, .int m_ju])), (b_row, .inl (tc 0, 2400, .inl rowT)), (b_part, .inl (tc 0, 4, .inl (upd (upd m_part (0 : Int32).toNatClampNeg 0) (3 : Int32).toNatClampNeg 0)))] := hD
                                  refine lv_aload_n hx hb d_M_stretch_241 rfl (lv_at hl 3 rfl) ?_
                                  refine lv_iload_n hx hb d_M_stretch_242 rfl (lv_at hl 4 rfl) ?_
                                  refine roSi (As := [.int x0]) (rest := [.ref b_x]) ⟨hx, hb, hml, hown, hts⟩ (mc_StepMachineModel_longKind l D tc tb z0 x0) (va_cwS 1 hts (goodS a_827 a_828 a_10 a_829) rfl rfl rfl hs_M_longKind ⟨Nat.le_of_ble_eq_true rfl, Nat.le_of_ble_eq_true rfl⟩) (hP.sub [] rfl) hK (hB.kept hS hZ) rfl hl.1 rfl (Nat.le_of_ble_eq_true rfl) d_M_stretch_243 ⟨Nat.zero_le _, Nat.zero_le _⟩ ?_
                                  refine roVi (As := [.int (mF_StepMachineModel_longKind x0)]) (rest := []) ⟨hx, hb, hml, hown, hts⟩ (mc_StepMachineModel_put l D tc tb z0 b_x b_row b_part b_mem b_mrk b_sf b_ss b_sr b_h b_r b_in b_out b_k m_on m_hc m_pc m_giv m_tak m_put m_st m_cu m_va m_sp m_un m_kc m_kn m_by m_kd m_tg m_ju (upd (upd m_part (0 : Int32).toNatClampNeg 0) (3 : Int32).toNatClampNeg 0) (mF_StepMachineModel_longKind x0) (lk_rng _)) (cwV 1 hts (goodV a_830 a_831 a_934 a_10 a_832) rfl rfl rfl hv_M_put ⟨Nat.le_of_ble_eq_true rfl, Nat.le_of_ble_eq_true rfl⟩) (hP.sub [0, 1, 2] rfl) hK (hB.kept hS hZ) rfl rfl rfl hl.1 rfl (Nat.le_of_ble_eq_true rfl) d_M_stretch_246 ⟨Nat.zero_le _, Nat.zero_le _⟩ ?_
                                  exact W.iret (v := (mF_StepMachineModel_put (upd (upd m_part (0 : Int32).toNatClampNeg 0) (3 : Int32).toNatClampNeg 0) (mF_StepMachineModel_longKind x0))) hx hb hr (fun t ht hW => ⟨⟨_, (upd (upd m_part (0 : Int32).toNatClampNeg 0) (3 : Int32).toNatClampNeg 0), rfl, by rw [mF_StepMachineModel_stretch, if_neg c_10, if_neg c_16, if_neg c_22, if_neg c_28, if_pos c_34, if_neg c_46, if_neg c_52, if_neg c_64, if_neg c_70, if_neg c_76, if_neg c_82, if_neg c_118, if_neg c_124, if_neg c_130, if_neg c_149, if_pos c_155], by rw [ht]; exact hP, va_K.moved hW.alike hK, hD⟩, hS.F ht⟩) hS.2.2 d_M_stretch_249
                            · skip
                              refine lv_aload_n hx hb d_M_stretch_133 rfl (lv_at hl 3 rfl) ?_
                              refine va_get (D := D) (ci := 9) (v := .ref b_part) (C := "StepMachineModel") (T := TX9) (N := 29) hx hb hts inU_9 hown hK hP 0 rfl rfl 1 (by decide) (hts _ a_634) (fun _ h9 => h9) rfl d_M_stretch_134 ?_
                              refine lv_iconst (v := 1) hx hb d_M_stretch_137 (by decide) ?_
                              refine lv_iconst (v := 0) hx hb d_M_stretch_138 (by decide) ?_
                              refine va_iast hx hb hK hP hD hS 2 0 rfl rfl (vp_in_nI (n := 1) (N := 4) (by decide) (by decide)) d_M_stretch_139 (fun H locs hP hD hS => ?_)
                              have hP : va_P D vwCl [(b_x, .inr (9, [.ref b_row, .ref b_part, .ref b_mem, .ref b_mrk, .ref b_sf, .ref b_ss, .ref b_sr, .int m_on, .ref b_h, .int m_hc, .ref b_r, .int m_pc, .ref b_in, .int m_giv, .int m_tak, .ref b_out, .int m_put, .int m_st, .int m_cu, .int m_va, .int m_sp, .int m_un, .ref b_k, .int m_kc, .int m_kn, .int m_by, .int m_kd, .int m_tg, .int m_ju])), (b_row, .inl (tc 0, 2400, .inl rowT)), (b_part, .inl (tc 0, 4, .inl (upd m_part (1 : Int32).toNatClampNeg 0)))] H := hP
                              have hD : va_D A [(b_x, .inr (9, [.ref b_row, .ref b_part, .ref b_mem, .ref b_mrk, .ref b_sf, .ref b_ss, .ref b_sr, .int m_on, .ref b_h, .int m_hc, .ref b_r, .int m_pc, .ref b_in, .int m_giv, .int m_tak, .ref b_out, .int m_put, .int m_st, .int m_cu, .int m_va, .int m_sp, .int m_un, .ref b_k, .int m_kc, .int m_kn, .int m_by, .int m_kd, .int m_tg, .int m_ju])), (b_row, .inl (tc 0, 2400, .inl rowT)), (b_part, .inl (tc 0, 4, .inl (upd m_part (1 : Int32).toNatClampNeg 0)))] := hD
                              refine lv_iload_n hx hb d_M_stretch_140 rfl (lv_at hl 4 rfl) ?_
                              refine lv_bipush (v := 51) hx hb d_M_stretch_141 (by decide) ?_
                              refine lv_icmp_eq (tgt := 158) hx hb d_M_stretch_143 (by decide) (fun c_143 => absurd c_143 c_118) (fun c_143 => ?_)
                              refine lv_iload_n hx hb d_M_stretch_146 rfl (lv_at hl 4 rfl) ?_
                              refine lv_bipush (v := 64) hx hb d_M_stretch_147 (by decide) ?_
                              refine lv_icmp_eq (tgt := 158) hx hb d_M_stretch_149 (by decide) (fun c_149 => absurd c_149 (by rw [c_130]; decide)) (fun c_149 => ?_)
                              refine lv_iload_n hx hb d_M_stretch_152 rfl (lv_at hl 4 rfl) ?_
                              refine lv_bipush (v := 69) hx hb d_M_stretch_153 (by decide) ?_
                              refine lv_icmp_ne (tgt := 165) hx hb d_M_stretch_155 (by decide) (fun c_155 => ?_) (fun c_155 => absurd c_155 (by rw [c_130]; decide))
                              refine lv_iload_n hx hb d_M_stretch_165 rfl (lv_at hl 4 rfl) ?_
                              refine lv_bipush (v := 53) hx hb d_M_stretch_166 (by decide) ?_
                              refine lv_icmp_eq (tgt := 177) hx hb d_M_stretch_168 (by decide) (fun c_168 => absurd c_168 (by rw [c_130]; decide)) (fun c_168 => ?_)
                              refine lv_iload_n hx hb d_M_stretch_171 rfl (lv_at hl 4 rfl) ?_
                              refine lv_bipush (v := 72) hx hb d_M_stretch_172 (by decide) ?_
                              refine lv_icmp_ne (tgt := 184) hx hb d_M_stretch_174 (by decide) (fun c_174 => ?_) (fun c_174 => absurd c_174 (by rw [c_130]; decide))
                              refine lv_iload_n hx hb d_M_stretch_184 rfl (lv_at hl 4 rfl) ?_
                              refine lv_bipush (v := 55) hx hb d_M_stretch_185 (by decide) ?_
                              refine lv_icmp_ne (tgt := 197) hx hb d_M_stretch_187 (by decide) (fun c_187 => ?_) (fun c_187 => absurd c_187 c_70)
                              refine lv_iload_n hx hb d_M_stretch_197 rfl (lv_at hl 4 rfl) ?_
                              refine lv_bipush (v := 65) hx hb d_M_stretch_198 (by decide) ?_
                              refine lv_icmp_eq (tgt := 209) hx hb d_M_stretch_200 (by decide) (fun c_200 => absurd c_200 (by rw [c_130]; decide)) (fun c_200 => ?_)
                              refine lv_iload_n hx hb d_M_stretch_203 rfl (lv_at hl 4 rfl) ?_
                              refine lv_bipush (v := 66) hx hb d_M_stretch_204 (by decide) ?_
                              refine lv_icmp_ne (tgt := 216) hx hb d_M_stretch_206 (by decide) (fun c_206 => ?_) (fun c_206 => absurd c_206 (by rw [c_130]; decide))
                              refine lv_iload_n hx hb d_M_stretch_216 rfl (lv_at hl 4 rfl) ?_
                              refine lv_bipush (v := 51) hx hb d_M_stretch_217 (by decide) ?_
                              refine lv_icmp_eq (tgt := 234) hx hb d_M_stretch_219 (by decide) (fun c_219 => absurd c_219 c_118) (fun c_219 => ?_)
                              refine lv_iload_n hx hb d_M_stretch_222 rfl (lv_at hl 4 rfl) ?_
                              refine lv_bipush (v := 69) hx hb d_M_stretch_223 (by decide) ?_
                              refine lv_icmp_eq (tgt := 234) hx hb d_M_stretch_225 (by decide) (fun c_225 => absurd c_225 (by rw [c_130]; decide)) (fun c_225 => ?_)
                              refine lv_iload_n hx hb d_M_stretch_228 rfl (lv_at hl 4 rfl) ?_
                              refine lv_bipush (v := 72) hx hb d_M_stretch_229 (by decide) ?_
                              refine lv_icmp_ne (tgt := 241) hx hb d_M_stretch_231 (by decide) (fun c_231 => ?_) (fun c_231 => absurd c_231 (by rw [c_130]; decide))
                              refine lv_aload_n hx hb d_M_stretch_241 rfl (lv_at hl 3 rfl) ?_
                              refine lv_iload_n hx hb d_M_stretch_242 rfl (lv_at hl 4 rfl) ?_
                              refine roSi (As := [.int x0]) (rest := [.ref b_x]) ⟨hx, hb, hml, hown, hts⟩ (mc_StepMachineModel_longKind l D tc tb z0 x0) (va_cwS 1 hts (goodS a_827 a_828 a_10 a_829) rfl rfl rfl hs_M_longKind ⟨Nat.le_of_ble_eq_true rfl, Nat.le_of_ble_eq_true rfl⟩) (hP.sub [] rfl) hK (hB.kept hS hZ) rfl hl.1 rfl (Nat.le_of_ble_eq_true rfl) d_M_stretch_243 ⟨Nat.zero_le _, Nat.zero_le _⟩ ?_
                              refine roVi (As := [.int (mF_StepMachineModel_longKind x0)]) (rest := []) ⟨hx, hb, hml, hown, hts⟩ (mc_StepMachineModel_put l D tc tb z0 b_x b_row b_part b_mem b_mrk b_sf b_ss b_sr b_h b_r b_in b_out b_k m_on m_hc m_pc m_giv m_tak m_put m_st m_cu m_va m_sp m_un m_kc m_kn m_by m_kd m_tg m_ju (upd m_part (1 : Int32).toNatClampNeg 0) (mF_StepMachineModel_longKind x0) (lk_rng _)) (cwV 1 hts (goodV a_830 a_831 a_934 a_10 a_832) rfl rfl rfl hv_M_put ⟨Nat.le_of_ble_eq_true rfl, Nat.le_of_ble_eq_true rfl⟩) (hP.sub [0, 1, 2] rfl) hK (hB.kept hS hZ) rfl rfl rfl hl.1 rfl (Nat.le_of_ble_eq_true rfl) d_M_stretch_246 ⟨Nat.zero_le _, Nat.zero_le _⟩ ?_
                              exact W.iret (v := (mF_StepMachineModel_put (upd m_part (1 : Int32).toNatClampNeg 0) (mF_StepMachineModel_longKind x0))) hx hb hr (fun t ht hW => ⟨⟨_, (upd m_part (1 : Int32).toNatClampNeg 0), rfl, by rw [mF_StepMachineModel_stretch, if_neg c_10, if_neg c_16, if_neg c_22, if_neg c_28, if_pos c_34, if_neg c_46, if_neg c_52, if_neg c_64, if_neg c_70, if_neg c_76, if_neg c_82, if_neg c_118, if_neg c_124, if_pos c_130], by rw [ht]; exact hP, va_K.moved hW.alike hK, hD⟩, hS.F ht⟩) hS.2.2 d_M_stretch_249
                      · skip
                        refine lv_iconst (v := 1) hx hb d_M_stretch_85 (by decide) ?_
                        refine lv_goto (tgt := 90) hx hb d_M_stretch_86 (by decide) ?_
                        refine lv_istore (lv' := [(4, .int 1), (3, .int 0), (2, .int (m_part (0 : Int32).toNatClampNeg)), (0, .ref b_x), (1, .int x0)]) hx hb d_M_stretch_90 hl (by decide) rfl (fun ls hl => ?_)
                        refine lv_iload_n hx hb d_M_stretch_92 rfl (lv_at hl 1 rfl) ?_
                        refine lv_if_eq (tgt := 103) hx hb d_M_stretch_93 (by decide) (fun c_93 => ?_) (fun c_93 => absurd c_93 (by decide))
                        refine lv_iload hx hb d_M_stretch_103 (lv_at hl 0 rfl) ?_
                        refine lv_if_eq (tgt := 115) hx hb d_M_stretch_105 (by decide) (fun c_105 => absurd c_105 (by decide)) (fun c_105 => ?_)
                        refine lv_aload_n hx hb d_M_stretch_108 rfl (lv_at hl 3 rfl) ?_
                        refine va_get (D := D) (ci := 9) (v := .ref b_part) (C := "StepMachineModel") (T := TX9) (N := 29) hx hb hts inU_9 hown hK hP 0 rfl rfl 1 (by decide) (hts _ a_634) (fun _ h9 => h9) rfl d_M_stretch_109 ?_
                        refine lv_iconst (v := 1) hx hb d_M_stretch_112 (by decide) ?_
                        refine lv_iconst (v := 2) hx hb d_M_stretch_113 (by decide) ?_
                        refine va_iast hx hb hK hP hD hS 2 0 rfl rfl (vp_in_nI (n := 1) (N := 4) (by decide) (by decide)) d_M_stretch_114 (fun H locs hP hD hS => ?_)
                        have hP : va_P D vwCl [(b_x, .inr (9, [.ref b_row, .ref b_part, .ref b_mem, .ref b_mrk, .ref b_sf, .ref b_ss, .ref b_sr, .int m_on, .ref b_h, .int m_hc, .ref b_r, .int m_pc, .ref b_in, .int m_giv, .int m_tak, .ref b_out, .int m_put, .int m_st, .int m_cu, .int m_va, .int m_sp, .int m_un, .ref b_k, .int m_kc, .int m_kn, .int m_by, .int m_kd, .int m_tg, .int m_ju])), (b_row, .inl (tc 0, 2400, .inl rowT)), (b_part, .inl (tc 0, 4, .inl (upd m_part (1 : Int32).toNatClampNeg 2)))] H := hP
                        have hD : va_D A [(b_x, .inr (9, [.ref b_row, .ref b_part, .ref b_mem, .ref b_mrk, .ref b_sf, .ref b_ss, .ref b_sr, .int m_on, .ref b_h, .int m_hc, .ref b_r, .int m_pc, .ref b_in, .int m_giv, .int m_tak, .ref b_out, .int m_put, .int m_st, .int m_cu, .int m_va, .int m_sp, .int m_un, .ref b_k, .int m_kc, .int m_kn, .int m_by, .int m_kd, .int m_tg, .int m_ju])), (b_row, .inl (tc 0, 2400, .inl rowT)), (b_part, .inl (tc 0, 4, .inl (upd m_part (1 : Int32).toNatClampNeg 2)))] := hD
                        refine lv_iload_n hx hb d_M_stretch_115 rfl (lv_at hl 4 rfl) ?_
                        refine lv_bipush (v := 51) hx hb d_M_stretch_116 (by decide) ?_
                        refine lv_icmp_eq (tgt := 133) hx hb d_M_stretch_118 (by decide) (fun c_118 => absurd c_118 (by rw [c_82]; decide)) (fun c_118 => ?_)
                        refine lv_iload_n hx hb d_M_stretch_121 rfl (lv_at hl 4 rfl) ?_
                        refine lv_bipush (v := 54) hx hb d_M_stretch_122 (by decide) ?_
                        refine lv_icmp_eq (tgt := 133) hx hb d_M_stretch_124 (by decide) (fun c_124 => absurd c_124 (by rw [c_82]; decide)) (fun c_124 => ?_)
                        refine lv_iload_n hx hb d_M_stretch_127 rfl (lv_at hl 4 rfl) ?_
                        refine lv_bipush (v := 70) hx hb d_M_stretch_128 (by decide) ?_
                        refine lv_icmp_ne (tgt := 140) hx hb d_M_stretch_130 (by decide) (fun c_130 => ?_) (fun c_130 => absurd c_130 (by rw [c_82]; decide))
                        refine lv_iload_n hx hb d_M_stretch_140 rfl (lv_at hl 4 rfl) ?_
                        refine lv_bipush (v := 51) hx hb d_M_stretch_141 (by decide) ?_
                        refine lv_icmp_eq (tgt := 158) hx hb d_M_stretch_143 (by decide) (fun c_143 => absurd c_143 (by rw [c_82]; decide)) (fun c_143 => ?_)
                        refine lv_iload_n hx hb d_M_stretch_146 rfl (lv_at hl 4 rfl) ?_
                        refine lv_bipush (v := 64) hx hb d_M_stretch_147 (by decide) ?_
                        refine lv_icmp_eq (tgt := 158) hx hb d_M_stretch_149 (by decide) (fun c_149 => absurd c_149 (by rw [c_82]; decide)) (fun c_149 => ?_)
                        refine lv_iload_n hx hb d_M_stretch_152 rfl (lv_at hl 4 rfl) ?_
                        refine lv_bipush (v := 69) hx hb d_M_stretch_153 (by decide) ?_
                        refine lv_icmp_ne (tgt := 165) hx hb d_M_stretch_155 (by decide) (fun c_155 => ?_) (fun c_155 => absurd c_155 (by rw [c_82]; decide))
                        refine lv_iload_n hx hb d_M_stretch_165 rfl (lv_at hl 4 rfl) ?_
                        refine lv_bipush (v := 53) hx hb d_M_stretch_166 (by decide) ?_
                        refine lv_icmp_eq (tgt := 177) hx hb d_M_stretch_168 (by decide) (fun c_168 => absurd c_168 (by rw [c_82]; decide)) (fun c_168 => ?_)
                        refine lv_iload_n hx hb d_M_stretch_171 rfl (lv_at hl 4 rfl) ?_
                        refine lv_bipush (v := 72) hx hb d_M_stretch_172 (by decide) ?_
                        refine lv_icmp_ne (tgt := 184) hx hb d_M_stretch_174 (by decide) (fun c_174 => ?_) (fun c_174 => absurd c_174 (by rw [c_82]; decide))
                        refine lv_iload_n hx hb d_M_stretch_184 rfl (lv_at hl 4 rfl) ?_
                        refine lv_bipush (v := 55) hx hb d_M_stretch_185 (by decide) ?_
                        refine lv_icmp_ne (tgt := 197) hx hb d_M_stretch_187 (by decide) (fun c_187 => ?_) (fun c_187 => absurd c_187 c_70)
                        refine lv_iload_n hx hb d_M_stretch_197 rfl (lv_at hl 4 rfl) ?_
                        refine lv_bipush (v := 65) hx hb d_M_stretch_198 (by decide) ?_
                        refine lv_icmp_eq (tgt := 209) hx hb d_M_stretch_200 (by decide) (fun c_200 => absurd c_200 (by rw [c_82]; decide)) (fun c_200 => ?_)
                        refine lv_iload_n hx hb d_M_stretch_203 rfl (lv_at hl 4 rfl) ?_
                        refine lv_bipush (v := 66) hx hb d_M_stretch_204 (by decide) ?_
                        refine lv_icmp_ne (tgt := 216) hx hb d_M_stretch_206 (by decide) (fun c_206 => ?_) (fun c_206 => absurd c_206 (by rw [c_82]; decide))
                        refine lv_iload_n hx hb d_M_stretch_216 rfl (lv_at hl 4 rfl) ?_
                        refine lv_bipush (v := 51) hx hb d_M_stretch_217 (by decide) ?_
                        refine lv_icmp_eq (tgt := 234) hx hb d_M_stretch_219 (by decide) (fun c_219 => absurd c_219 (by rw [c_82]; decide)) (fun c_219 => ?_)
                        refine lv_iload_n hx hb d_M_stretch_222 rfl (lv_at hl 4 rfl) ?_
                        refine lv_bipush (v := 69) hx hb d_M_stretch_223 (by decide) ?_
                        refine lv_icmp_eq (tgt := 234) hx hb d_M_stretch_225 (by decide) (fun c_225 => absurd c_225 (by rw [c_82]; decide)) (fun c_225 => ?_)
                        refine lv_iload_n hx hb d_M_stretch_228 rfl (lv_at hl 4 rfl) ?_
                        refine lv_bipush (v := 72) hx hb d_M_stretch_229 (by decide) ?_
                        refine lv_icmp_ne (tgt := 241) hx hb d_M_stretch_231 (by decide) (fun c_231 => ?_) (fun c_231 => absurd c_231 (by rw [c_82]; decide))
                        refine lv_aload_n hx hb d_M_stretch_241 rfl (lv_at hl 3 rfl) ?_
                        refine lv_iload_n hx hb d_M_stretch_242 rfl (lv_at hl 4 rfl) ?_
                        refine roSi (As := [.int x0]) (rest := [.ref b_x]) ⟨hx, hb, hml, hown, hts⟩ (mc_StepMachineModel_longKind l D tc tb z0 x0) (va_cwS 1 hts (goodS a_827 a_828 a_10 a_829) rfl rfl rfl hs_M_longKind ⟨Nat.le_of_ble_eq_true rfl, Nat.le_of_ble_eq_true rfl⟩) (hP.sub [] rfl) hK (hB.kept hS hZ) rfl hl.1 rfl (Nat.le_of_ble_eq_true rfl) d_M_stretch_243 ⟨Nat.zero_le _, Nat.zero_le _⟩ ?_
                        refine roVi (As := [.int (mF_StepMachineModel_longKind x0)]) (rest := []) ⟨hx, hb, hml, hown, hts⟩ (mc_StepMachineModel_put l D tc tb z0 b_x b_row b_part b_mem b_mrk b_sf b_ss b_sr b_h b_r b_in b_out b_k m_on m_hc m_pc m_giv m_tak m_put m_st m_cu m_va m_sp m_un m_kc m_kn m_by m_kd m_tg m_ju (upd m_part (1 : Int32).toNatClampNeg 2) (mF_StepMachineModel_longKind x0) (lk_rng _)) (cwV 1 hts (goodV a_830 a_831 a_934 a_10 a_832) rfl rfl rfl hv_M_put ⟨Nat.le_of_ble_eq_true rfl, Nat.le_of_ble_eq_true rfl⟩) (hP.sub [0, 1, 2] rfl) hK (hB.kept hS hZ) rfl rfl rfl hl.1 rfl (Nat.le_of_ble_eq_true rfl) d_M_stretch_246 ⟨Nat.zero_le _, Nat.zero_le _⟩ ?_
                        exact W.iret (v := (mF_StepMachineModel_put (upd m_part (1 : Int32).toNatClampNeg 2) (mF_StepMachineModel_longKind x0))) hx hb hr (fun t ht hW => ⟨⟨_, (upd m_part (1 : Int32).toNatClampNeg 2), rfl, by rw [mF_StepMachineModel_stretch, if_neg c_10, if_neg c_16, if_neg c_22, if_neg c_28, if_pos c_34, if_neg c_46, if_neg c_52, if_neg c_64, if_neg c_70, if_neg c_76, if_pos c_82], by rw [ht]; exact hP, va_K.moved hW.alike hK, hD⟩, hS.F ht⟩) hS.2.2 d_M_stretch_249
              · skip
                refine lv_iconst (v := 1) hx hb d_M_stretch_55 (by decide) ?_
                refine lv_goto (tgt := 60) hx hb d_M_stretch_56 (by decide) ?_
                refine lv_istore_n (lv' := [(3, .int 1), (2, .int (m_part (0 : Int32).toNatClampNeg)), (0, .ref b_x), (1, .int x0)]) hx hb d_M_stretch_60 rfl hl (by decide) rfl (fun ls hl => ?_)
                refine lv_iload_n hx hb d_M_stretch_61 rfl (lv_at hl 3 rfl) ?_
                refine lv_bipush (v := 48) hx hb d_M_stretch_62 (by decide) ?_
                refine lv_icmp_eq (tgt := 85) hx hb d_M_stretch_64 (by decide) (fun c_64 => absurd c_64 (by rw [c_52]; decide)) (fun c_64 => ?_)
                refine lv_iload_n hx hb d_M_stretch_67 rfl (lv_at hl 3 rfl) ?_
                refine lv_bipush (v := 55) hx hb d_M_stretch_68 (by decide) ?_
                refine lv_icmp_eq (tgt := 85) hx hb d_M_stretch_70 (by decide) (fun c_70 => absurd c_70 (by rw [c_52]; decide)) (fun c_70 => ?_)
                refine lv_iload_n hx hb d_M_stretch_73 rfl (lv_at hl 3 rfl) ?_
                refine lv_bipush (v := 68) hx hb d_M_stretch_74 (by decide) ?_
                refine lv_icmp_eq (tgt := 85) hx hb d_M_stretch_76 (by decide) (fun c_76 => absurd c_76 (by rw [c_52]; decide)) (fun c_76 => ?_)
                refine lv_iload_n hx hb d_M_stretch_79 rfl (lv_at hl 3 rfl) ?_
                refine lv_bipush (v := 74) hx hb d_M_stretch_80 (by decide) ?_
                refine lv_icmp_ne (tgt := 89) hx hb d_M_stretch_82 (by decide) (fun c_82 => ?_) (fun c_82 => absurd c_82 (by rw [c_52]; decide))
                refine lv_iconst (v := 0) hx hb d_M_stretch_89 (by decide) ?_
                refine lv_istore (lv' := [(4, .int 0), (3, .int 1), (2, .int (m_part (0 : Int32).toNatClampNeg)), (0, .ref b_x), (1, .int x0)]) hx hb d_M_stretch_90 hl (by decide) rfl (fun ls hl => ?_)
                refine lv_iload_n hx hb d_M_stretch_92 rfl (lv_at hl 1 rfl) ?_
                refine lv_if_eq (tgt := 103) hx hb d_M_stretch_93 (by decide) (fun c_93 => absurd c_93 (by decide)) (fun c_93 => ?_)
                refine lv_aload_n hx hb d_M_stretch_96 rfl (lv_at hl 3 rfl) ?_
                refine va_get (D := D) (ci := 9) (v := .ref b_part) (C := "StepMachineModel") (T := TX9) (N := 29) hx hb hts inU_9 hown hK hP 0 rfl rfl 1 (by decide) (hts _ a_634) (fun _ h9 => h9) rfl d_M_stretch_97 ?_
                refine lv_iconst (v := 1) hx hb d_M_stretch_100 (by decide) ?_
                refine lv_iload_n hx hb d_M_stretch_101 rfl (lv_at hl 2 rfl) ?_
                refine va_iast hx hb hK hP hD hS 2 0 rfl rfl (vp_in_nI (n := 1) (N := 4) (by decide) (by decide)) d_M_stretch_102 (fun H locs hP hD hS => ?_)
                have hP : va_P D vwCl [(b_x, .inr (9, [.ref b_row, .ref b_part, .ref b_mem, .ref b_mrk, .ref b_sf, .ref b_ss, .ref b_sr, .int m_on, .ref b_h, .int m_hc, .ref b_r, .int m_pc, .ref b_in, .int m_giv, .int m_tak, .ref b_out, .int m_put, .int m_st, .int m_cu, .int m_va, .int m_sp, .int m_un, .ref b_k, .int m_kc, .int m_kn, .int m_by, .int m_kd, .int m_tg, .int m_ju])), (b_row, .inl (tc 0, 2400, .inl rowT)), (b_part, .inl (tc 0, 4, .inl (upd m_part (1 : Int32).toNatClampNeg (m_part (0 : Int32).toNatClampNeg))))] H := hP
                have hD : va_D A [(b_x, .inr (9, [.ref b_row, .ref b_part, .ref b_mem, .ref b_mrk, .ref b_sf, .ref b_ss, .ref b_sr, .int m_on, .ref b_h, .int m_hc, .ref b_r, .int m_pc, .ref b_in, .int m_giv, .int m_tak, .ref b_out, .int m_put, .int m_st, .int m_cu, .int m_va, .int m_sp, .int m_un, .ref b_k, .int m_kc, .int m_kn, .int m_by, .int m_kd, .int m_tg, .int m_ju])), (b_row, .inl (tc 0, 2400, .inl rowT)), (b_part, .inl (tc 0, 4, .inl (upd m_part (1 : Int32).toNatClampNeg (m_part (0 : Int32).toNatClampNeg))))] := hD
                refine lv_iload hx hb d_M_stretch_103 (lv_at hl 0 rfl) ?_
                refine lv_if_eq (tgt := 115) hx hb d_M_stretch_105 (by decide) (fun c_105 => ?_) (fun c_105 => absurd c_105 (by decide))
                refine lv_iload_n hx hb d_M_stretch_115 rfl (lv_at hl 4 rfl) ?_
                refine lv_bipush (v := 51) hx hb d_M_stretch_116 (by decide) ?_
                refine lv_icmp_eq (tgt := 133) hx hb d_M_stretch_118 (by decide) (fun c_118 => absurd c_118 (by rw [c_52]; decide)) (fun c_118 => ?_)
                refine lv_iload_n hx hb d_M_stretch_121 rfl (lv_at hl 4 rfl) ?_
                refine lv_bipush (v := 54) hx hb d_M_stretch_122 (by decide) ?_
                refine lv_icmp_eq (tgt := 133) hx hb d_M_stretch_124 (by decide) (fun c_124 => absurd c_124 (by rw [c_52]; decide)) (fun c_124 => ?_)
                refine lv_iload_n hx hb d_M_stretch_127 rfl (lv_at hl 4 rfl) ?_
                refine lv_bipush (v := 70) hx hb d_M_stretch_128 (by decide) ?_
                refine lv_icmp_ne (tgt := 140) hx hb d_M_stretch_130 (by decide) (fun c_130 => ?_) (fun c_130 => absurd c_130 (by rw [c_52]; decide))
                refine lv_iload_n hx hb d_M_stretch_140 rfl (lv_at hl 4 rfl) ?_
                refine lv_bipush (v := 51) hx hb d_M_stretch_141 (by decide) ?_
                refine lv_icmp_eq (tgt := 158) hx hb d_M_stretch_143 (by decide) (fun c_143 => absurd c_143 (by rw [c_52]; decide)) (fun c_143 => ?_)
                refine lv_iload_n hx hb d_M_stretch_146 rfl (lv_at hl 4 rfl) ?_
                refine lv_bipush (v := 64) hx hb d_M_stretch_147 (by decide) ?_
                refine lv_icmp_eq (tgt := 158) hx hb d_M_stretch_149 (by decide) (fun c_149 => absurd c_149 (by rw [c_52]; decide)) (fun c_149 => ?_)
                refine lv_iload_n hx hb d_M_stretch_152 rfl (lv_at hl 4 rfl) ?_
                refine lv_bipush (v := 69) hx hb d_M_stretch_153 (by decide) ?_
                refine lv_icmp_ne (tgt := 165) hx hb d_M_stretch_155 (by decide) (fun c_155 => ?_) (fun c_155 => absurd c_155 (by rw [c_52]; decide))
                refine lv_iload_n hx hb d_M_stretch_165 rfl (lv_at hl 4 rfl) ?_
                refine lv_bipush (v := 53) hx hb d_M_stretch_166 (by decide) ?_
                refine lv_icmp_eq (tgt := 177) hx hb d_M_stretch_168 (by decide) (fun c_168 => absurd c_168 (by rw [c_52]; decide)) (fun c_168 => ?_)
                refine lv_iload_n hx hb d_M_stretch_171 rfl (lv_at hl 4 rfl) ?_
                refine lv_bipush (v := 72) hx hb d_M_stretch_172 (by decide) ?_
                refine lv_icmp_ne (tgt := 184) hx hb d_M_stretch_174 (by decide) (fun c_174 => ?_) (fun c_174 => absurd c_174 (by rw [c_52]; decide))
                refine lv_iload_n hx hb d_M_stretch_184 rfl (lv_at hl 4 rfl) ?_
                refine lv_bipush (v := 55) hx hb d_M_stretch_185 (by decide) ?_
                refine lv_icmp_ne (tgt := 197) hx hb d_M_stretch_187 (by decide) (fun c_187 => ?_) (fun c_187 => absurd c_187 (by rw [c_52]; decide))
                refine lv_iload_n hx hb d_M_stretch_197 rfl (lv_at hl 4 rfl) ?_
                refine lv_bipush (v := 65) hx hb d_M_stretch_198 (by decide) ?_
                refine lv_icmp_eq (tgt := 209) hx hb d_M_stretch_200 (by decide) (fun c_200 => absurd c_200 (by rw [c_52]; decide)) (fun c_200 => ?_)
                refine lv_iload_n hx hb d_M_stretch_203 rfl (lv_at hl 4 rfl) ?_
                refine lv_bipush (v := 66) hx hb d_M_stretch_204 (by decide) ?_
                refine lv_icmp_ne (tgt := 216) hx hb d_M_stretch_206 (by decide) (fun c_206 => ?_) (fun c_206 => absurd c_206 (by rw [c_52]; decide))
                refine lv_iload_n hx hb d_M_stretch_216 rfl (lv_at hl 4 rfl) ?_
                refine lv_bipush (v := 51) hx hb d_M_stretch_217 (by decide) ?_
                refine lv_icmp_eq (tgt := 234) hx hb d_M_stretch_219 (by decide) (fun c_219 => absurd c_219 (by rw [c_52]; decide)) (fun c_219 => ?_)
                refine lv_iload_n hx hb d_M_stretch_222 rfl (lv_at hl 4 rfl) ?_
                refine lv_bipush (v := 69) hx hb d_M_stretch_223 (by decide) ?_
                refine lv_icmp_eq (tgt := 234) hx hb d_M_stretch_225 (by decide) (fun c_225 => absurd c_225 (by rw [c_52]; decide)) (fun c_225 => ?_)
                refine lv_iload_n hx hb d_M_stretch_228 rfl (lv_at hl 4 rfl) ?_
                refine lv_bipush (v := 72) hx hb d_M_stretch_229 (by decide) ?_
                refine lv_icmp_ne (tgt := 241) hx hb d_M_stretch_231 (by decide) (fun c_231 => ?_) (fun c_231 => absurd c_231 (by rw [c_52]; decide))
                refine lv_aload_n hx hb d_M_stretch_241 rfl (lv_at hl 3 rfl) ?_
                refine lv_iload_n hx hb d_M_stretch_242 rfl (lv_at hl 4 rfl) ?_
                refine roSi (As := [.int x0]) (rest := [.ref b_x]) ⟨hx, hb, hml, hown, hts⟩ (mc_StepMachineModel_longKind l D tc tb z0 x0) (va_cwS 1 hts (goodS a_827 a_828 a_10 a_829) rfl rfl rfl hs_M_longKind ⟨Nat.le_of_ble_eq_true rfl, Nat.le_of_ble_eq_true rfl⟩) (hP.sub [] rfl) hK (hB.kept hS hZ) rfl hl.1 rfl (Nat.le_of_ble_eq_true rfl) d_M_stretch_243 ⟨Nat.zero_le _, Nat.zero_le _⟩ ?_
                refine roVi (As := [.int (mF_StepMachineModel_longKind x0)]) (rest := []) ⟨hx, hb, hml, hown, hts⟩ (mc_StepMachineModel_put l D tc tb z0 b_x b_row b_part b_mem b_mrk b_sf b_ss b_sr b_h b_r b_in b_out b_k m_on m_hc m_pc m_giv m_tak m_put m_st m_cu m_va m_sp m_un m_kc m_kn m_by m_kd m_tg m_ju (upd m_part (1 : Int32).toNatClampNeg (m_part (0 : Int32).toNatClampNeg)) (mF_StepMachineModel_longKind x0) (lk_rng _)) (cwV 1 hts (goodV a_830 a_831 a_934 a_10 a_832) rfl rfl rfl hv_M_put ⟨Nat.le_of_ble_eq_true rfl, Nat.le_of_ble_eq_true rfl⟩) (hP.sub [0, 1, 2] rfl) hK (hB.kept hS hZ) rfl rfl rfl hl.1 rfl (Nat.le_of_ble_eq_true rfl) d_M_stretch_246 ⟨Nat.zero_le _, Nat.zero_le _⟩ ?_
                exact W.iret (v := (mF_StepMachineModel_put (upd m_part (1 : Int32).toNatClampNeg (m_part (0 : Int32).toNatClampNeg)) (mF_StepMachineModel_longKind x0))) hx hb hr (fun t ht hW => ⟨⟨_, (upd m_part (1 : Int32).toNatClampNeg (m_part (0 : Int32).toNatClampNeg)), rfl, by rw [mF_StepMachineModel_stretch, if_neg c_10, if_neg c_16, if_neg c_22, if_neg c_28, if_pos c_34, if_neg c_46, if_pos c_52], by rw [ht]; exact hP, va_K.moved hW.alike hK, hD⟩, hS.F ht⟩) hS.2.2 d_M_stretch_249
          · skip
            refine lv_iload_n hx hb d_M_stretch_37 rfl (lv_at hl 2 rfl) ?_
            refine lv_bipush (v := 64) hx hb d_M_stretch_38 (by decide) ?_
            refine lv_icmp_lt (tgt := 55) hx hb d_M_stretch_40 (by decide) (fun c_40 => ?_) (fun c_40 => ?_)
            · skip
              refine lv_iconst (v := 1) hx hb d_M_stretch_55 (by decide) ?_
              refine lv_goto (tgt := 60) hx hb d_M_stretch_56 (by decide) ?_
              refine lv_istore_n (lv' := [(3, .int 1), (2, .int (m_part (0 : Int32).toNatClampNeg)), (0, .ref b_x), (1, .int x0)]) hx hb d_M_stretch_60 rfl hl (by decide) rfl (fun ls hl => ?_)
              refine lv_iload_n hx hb d_M_stretch_61 rfl (lv_at hl 3 rfl) ?_
              refine lv_bipush (v := 48) hx hb d_M_stretch_62 (by decide) ?_
              refine lv_icmp_eq (tgt := 85) hx hb d_M_stretch_64 (by decide) (fun c_64 => ?_) (fun c_64 => ?_)
              · skip
                refine lv_iconst (v := 1) hx hb d_M_stretch_85 (by decide) ?_
                refine lv_goto (tgt := 90) hx hb d_M_stretch_86 (by decide) ?_
                refine lv_istore (lv' := [(4, .int 1), (3, .int 1), (2, .int (m_part (0 : Int32).toNatClampNeg)), (0, .ref b_x), (1, .int x0)]) hx hb d_M_stretch_90 hl (by decide) rfl (fun ls hl => ?_)
                refine lv_iload_n hx hb d_M_stretch_92 rfl (lv_at hl 1 rfl) ?_
                refine lv_if_eq (tgt := 103) hx hb d_M_stretch_93 (by decide) (fun c_93 => absurd c_93 (by decide)) (fun c_93 => ?_)
                refine lv_aload_n hx hb d_M_stretch_96 rfl (lv_at hl 3 rfl) ?_
                refine va_get (D := D) (ci := 9) (v := .ref b_part) (C := "StepMachineModel") (T := TX9) (N := 29) hx hb hts inU_9 hown hK hP 0 rfl rfl 1 (by decide) (hts _ a_634) (fun _ h9 => h9) rfl d_M_stretch_97 ?_
                refine lv_iconst (v := 1) hx hb d_M_stretch_100 (by decide) ?_
                refine lv_iload_n hx hb d_M_stretch_101 rfl (lv_at hl 2 rfl) ?_
                refine va_iast hx hb hK hP hD hS 2 0 rfl rfl (vp_in_nI (n := 1) (N := 4) (by decide) (by decide)) d_M_stretch_102 (fun H locs hP hD hS => ?_)
                have hP : va_P D vwCl [(b_x, .inr (9, [.ref b_row, .ref b_part, .ref b_mem, .ref b_mrk, .ref b_sf, .ref b_ss, .ref b_sr, .int m_on, .ref b_h, .int m_hc, .ref b_r, .int m_pc, .ref b_in, .int m_giv, .int m_tak, .ref b_out, .int m_put, .int m_st, .int m_cu, .int m_va, .int m_sp, .int m_un, .ref b_k, .int m_kc, .int m_kn, .int m_by, .int m_kd, .int m_tg, .int m_ju])), (b_row, .inl (tc 0, 2400, .inl rowT)), (b_part, .inl (tc 0, 4, .inl (upd m_part (1 : Int32).toNatClampNeg (m_part (0 : Int32).toNatClampNeg))))] H := hP
                have hD : va_D A [(b_x, .inr (9, [.ref b_row, .ref b_part, .ref b_mem, .ref b_mrk, .ref b_sf, .ref b_ss, .ref b_sr, .int m_on, .ref b_h, .int m_hc, .ref b_r, .int m_pc, .ref b_in, .int m_giv, .int m_tak, .ref b_out, .int m_put, .int m_st, .int m_cu, .int m_va, .int m_sp, .int m_un, .ref b_k, .int m_kc, .int m_kn, .int m_by, .int m_kd, .int m_tg, .int m_ju])), (b_row, .inl (tc 0, 2400, .inl rowT)), (b_part, .inl (tc 0, 4, .inl (upd m_part (1 : Int32).toNatClampNeg (m_part (0 : Int32).toNatClampNeg))))] := hD
                refine lv_iload hx hb d_M_stretch_103 (lv_at hl 0 rfl) ?_
                refine lv_if_eq (tgt := 115) hx hb d_M_stretch_105 (by decide) (fun c_105 => absurd c_105 (by decide)) (fun c_105 => ?_)
                refine lv_aload_n hx hb d_M_stretch_108 rfl (lv_at hl 3 rfl) ?_
                refine va_get (D := D) (ci := 9) (v := .ref b_part) (C := "StepMachineModel") (T := TX9) (N := 29) hx hb hts inU_9 hown hK hP 0 rfl rfl 1 (by decide) (hts _ a_634) (fun _ h9 => h9) rfl d_M_stretch_109 ?_
                refine lv_iconst (v := 1) hx hb d_M_stretch_112 (by decide) ?_
                refine lv_iconst (v := 2) hx hb d_M_stretch_113 (by decide) ?_
                refine va_iast hx hb hK hP hD hS 2 0 rfl rfl (vp_in_nI (n := 1) (N := 4) (by decide) (by decide)) d_M_stretch_114 (fun H locs hP hD hS => ?_)
                have hP : va_P D vwCl [(b_x, .inr (9, [.ref b_row, .ref b_part, .ref b_mem, .ref b_mrk, .ref b_sf, .ref b_ss, .ref b_sr, .int m_on, .ref b_h, .int m_hc, .ref b_r, .int m_pc, .ref b_in, .int m_giv, .int m_tak, .ref b_out, .int m_put, .int m_st, .int m_cu, .int m_va, .int m_sp, .int m_un, .ref b_k, .int m_kc, .int m_kn, .int m_by, .int m_kd, .int m_tg, .int m_ju])), (b_row, .inl (tc 0, 2400, .inl rowT)), (b_part, .inl (tc 0, 4, .inl (upd (upd m_part (1 : Int32).toNatClampNeg (m_part (0 : Int32).toNatClampNeg)) (1 : Int32).toNatClampNeg 2)))] H := hP
                have hD : va_D A [(b_x, .inr (9, [.ref b_row, .ref b_part, .ref b_mem, .ref b_mrk, .ref b_sf, .ref b_ss, .ref b_sr, .int m_on, .ref b_h, .int m_hc, .ref b_r, .int m_pc, .ref b_in, .int m_giv, .int m_tak, .ref b_out, .int m_put, .int m_st, .int m_cu, .int m_va, .int m_sp, .int m_un, .ref b_k, .int m_kc, .int m_kn, .int m_by, .int m_kd, .int m_tg, .int m_ju])), (b_row, .inl (tc 0, 2400, .inl rowT)), (b_part, .inl (tc 0, 4, .inl (upd (upd m_part (1 : Int32).toNatClampNeg (m_part (0 : Int32).toNatClampNeg)) (1 : Int32).toNatClampNeg 2)))] := hD
                refine lv_iload_n hx hb d_M_stretch_115 rfl (lv_at hl 4 rfl) ?_
                refine lv_bipush (v := 51) hx hb d_M_stretch_116 (by decide) ?_
                refine lv_icmp_eq (tgt := 133) hx hb d_M_stretch_118 (by decide) (fun c_118 => absurd c_118 (by rw [c_64]; decide)) (fun c_118 => ?_)
                refine lv_iload_n hx hb d_M_stretch_121 rfl (lv_at hl 4 rfl) ?_
                refine lv_bipush (v := 54) hx hb d_M_stretch_122 (by decide) ?_
                refine lv_icmp_eq (tgt := 133) hx hb d_M_stretch_124 (by decide) (fun c_124 => absurd c_124 (by rw [c_64]; decide)) (fun c_124 => ?_)
                refine lv_iload_n hx hb d_M_stretch_127 rfl (lv_at hl 4 rfl) ?_
                refine lv_bipush (v := 70) hx hb d_M_stretch_128 (by decide) ?_
                refine lv_icmp_ne (tgt := 140) hx hb d_M_stretch_130 (by decide) (fun c_130 => ?_) (fun c_130 => absurd c_130 (by rw [c_64]; decide))
                refine lv_iload_n hx hb d_M_stretch_140 rfl (lv_at hl 4 rfl) ?_
                refine lv_bipush (v := 51) hx hb d_M_stretch_141 (by decide) ?_
                refine lv_icmp_eq (tgt := 158) hx hb d_M_stretch_143 (by decide) (fun c_143 => absurd c_143 (by rw [c_64]; decide)) (fun c_143 => ?_)
                refine lv_iload_n hx hb d_M_stretch_146 rfl (lv_at hl 4 rfl) ?_
                refine lv_bipush (v := 64) hx hb d_M_stretch_147 (by decide) ?_
                refine lv_icmp_eq (tgt := 158) hx hb d_M_stretch_149 (by decide) (fun c_149 => absurd c_149 (by rw [c_64]; decide)) (fun c_149 => ?_)
                refine lv_iload_n hx hb d_M_stretch_152 rfl (lv_at hl 4 rfl) ?_
                refine lv_bipush (v := 69) hx hb d_M_stretch_153 (by decide) ?_
                refine lv_icmp_ne (tgt := 165) hx hb d_M_stretch_155 (by decide) (fun c_155 => ?_) (fun c_155 => absurd c_155 (by rw [c_64]; decide))
                refine lv_iload_n hx hb d_M_stretch_165 rfl (lv_at hl 4 rfl) ?_
                refine lv_bipush (v := 53) hx hb d_M_stretch_166 (by decide) ?_
                refine lv_icmp_eq (tgt := 177) hx hb d_M_stretch_168 (by decide) (fun c_168 => absurd c_168 (by rw [c_64]; decide)) (fun c_168 => ?_)
                refine lv_iload_n hx hb d_M_stretch_171 rfl (lv_at hl 4 rfl) ?_
                refine lv_bipush (v := 72) hx hb d_M_stretch_172 (by decide) ?_
                refine lv_icmp_ne (tgt := 184) hx hb d_M_stretch_174 (by decide) (fun c_174 => ?_) (fun c_174 => absurd c_174 (by rw [c_64]; decide))
                refine lv_iload_n hx hb d_M_stretch_184 rfl (lv_at hl 4 rfl) ?_
                refine lv_bipush (v := 55) hx hb d_M_stretch_185 (by decide) ?_
                refine lv_icmp_ne (tgt := 197) hx hb d_M_stretch_187 (by decide) (fun c_187 => ?_) (fun c_187 => absurd c_187 (by rw [c_64]; decide))
                refine lv_iload_n hx hb d_M_stretch_197 rfl (lv_at hl 4 rfl) ?_
                refine lv_bipush (v := 65) hx hb d_M_stretch_198 (by decide) ?_
                refine lv_icmp_eq (tgt := 209) hx hb d_M_stretch_200 (by decide) (fun c_200 => absurd c_200 (by rw [c_64]; decide)) (fun c_200 => ?_)
                refine lv_iload_n hx hb d_M_stretch_203 rfl (lv_at hl 4 rfl) ?_
                refine lv_bipush (v := 66) hx hb d_M_stretch_204 (by decide) ?_
                refine lv_icmp_ne (tgt := 216) hx hb d_M_stretch_206 (by decide) (fun c_206 => ?_) (fun c_206 => absurd c_206 (by rw [c_64]; decide))
                refine lv_iload_n hx hb d_M_stretch_216 rfl (lv_at hl 4 rfl) ?_
                refine lv_bipush (v := 51) hx hb d_M_stretch_217 (by decide) ?_
                refine lv_icmp_eq (tgt := 234) hx hb d_M_stretch_219 (by decide) (fun c_219 => absurd c_219 (by rw [c_64]; decide)) (fun c_219 => ?_)
                refine lv_iload_n hx hb d_M_stretch_222 rfl (lv_at hl 4 rfl) ?_
                refine lv_bipush (v := 69) hx hb d_M_stretch_223 (by decide) ?_
                refine lv_icmp_eq (tgt := 234) hx hb d_M_stretch_225 (by decide) (fun c_225 => absurd c_225 (by rw [c_64]; decide)) (fun c_225 => ?_)
                refine lv_iload_n hx hb d_M_stretch_228 rfl (lv_at hl 4 rfl) ?_
                refine lv_bipush (v := 72) hx hb d_M_stretch_229 (by decide) ?_
                refine lv_icmp_ne (tgt := 241) hx hb d_M_stretch_231 (by decide) (fun c_231 => ?_) (fun c_231 => absurd c_231 (by rw [c_64]; decide))
                refine lv_aload_n hx hb d_M_stretch_241 rfl (lv_at hl 3 rfl) ?_
                refine lv_iload_n hx hb d_M_stretch_242 rfl (lv_at hl 4 rfl) ?_
                refine roSi (As := [.int x0]) (rest := [.ref b_x]) ⟨hx, hb, hml, hown, hts⟩ (mc_StepMachineModel_longKind l D tc tb z0 x0) (va_cwS 1 hts (goodS a_827 a_828 a_10 a_829) rfl rfl rfl hs_M_longKind ⟨Nat.le_of_ble_eq_true rfl, Nat.le_of_ble_eq_true rfl⟩) (hP.sub [] rfl) hK (hB.kept hS hZ) rfl hl.1 rfl (Nat.le_of_ble_eq_true rfl) d_M_stretch_243 ⟨Nat.zero_le _, Nat.zero_le _⟩ ?_
                refine roVi (As := [.int (mF_StepMachineModel_longKind x0)]) (rest := []) ⟨hx, hb, hml, hown, hts⟩ (mc_StepMachineModel_put l D tc tb z0 b_x b_row b_part b_mem b_mrk b_sf b_ss b_sr b_h b_r b_in b_out b_k m_on m_hc m_pc m_giv m_tak m_put m_st m_cu m_va m_sp m_un m_kc m_kn m_by m_kd m_tg m_ju (upd (upd m_part (1 : Int32).toNatClampNeg (m_part (0 : Int32).toNatClampNeg)) (1 : Int32).toNatClampNeg 2) (mF_StepMachineModel_longKind x0) (lk_rng _)) (cwV 1 hts (goodV a_830 a_831 a_934 a_10 a_832) rfl rfl rfl hv_M_put ⟨Nat.le_of_ble_eq_true rfl, Nat.le_of_ble_eq_true rfl⟩) (hP.sub [0, 1, 2] rfl) hK (hB.kept hS hZ) rfl rfl rfl hl.1 rfl (Nat.le_of_ble_eq_true rfl) d_M_stretch_246 ⟨Nat.zero_le _, Nat.zero_le _⟩ ?_
                exact W.iret (v := (mF_StepMachineModel_put (upd (upd m_part (1 : Int32).toNatClampNeg (m_part (0 : Int32).toNatClampNeg)) (1 : Int32).toNatClampNeg 2) (mF_StepMachineModel_longKind x0))) hx hb hr (fun t ht hW => ⟨⟨_, (upd (upd m_part (1 : Int32).toNatClampNeg (m_part (0 : Int32).toNatClampNeg)) (1 : Int32).toNatClampNeg 2), rfl, by rw [mF_StepMachineModel_stretch, if_neg c_10, if_neg c_16, if_neg c_22, if_neg c_28, if_neg c_34, if_pos c_40, if_pos c_64], by rw [ht]; exact hP, va_K.moved hW.alike hK, hD⟩, hS.F ht⟩) hS.2.2 d_M_stretch_249
              · skip
                refine lv_iload_n hx hb d_M_stretch_67 rfl (lv_at hl 3 rfl) ?_
                refine lv_bipush (v := 55) hx hb d_M_stretch_68 (by decide) ?_
                refine lv_icmp_eq (tgt := 85) hx hb d_M_stretch_70 (by decide) (fun c_70 => ?_) (fun c_70 => ?_)
                · skip
                  refine lv_iconst (v := 1) hx hb d_M_stretch_85 (by decide) ?_
                  refine lv_goto (tgt := 90) hx hb d_M_stretch_86 (by decide) ?_
                  refine lv_istore (lv' := [(4, .int 1), (3, .int 1), (2, .int (m_part (0 : Int32).toNatClampNeg)), (0, .ref b_x), (1, .int x0)]) hx hb d_M_stretch_90 hl (by decide) rfl (fun ls hl => ?_)
                  refine lv_iload_n hx hb d_M_stretch_92 rfl (lv_at hl 1 rfl) ?_
                  refine lv_if_eq (tgt := 103) hx hb d_M_stretch_93 (by decide) (fun c_93 => absurd c_93 (by decide)) (fun c_93 => ?_)
                  refine lv_aload_n hx hb d_M_stretch_96 rfl (lv_at hl 3 rfl) ?_
                  refine va_get (D := D) (ci := 9) (v := .ref b_part) (C := "StepMachineModel") (T := TX9) (N := 29) hx hb hts inU_9 hown hK hP 0 rfl rfl 1 (by decide) (hts _ a_634) (fun _ h9 => h9) rfl d_M_stretch_97 ?_
                  refine lv_iconst (v := 1) hx hb d_M_stretch_100 (by decide) ?_
                  refine lv_iload_n hx hb d_M_stretch_101 rfl (lv_at hl 2 rfl) ?_
                  refine va_iast hx hb hK hP hD hS 2 0 rfl rfl (vp_in_nI (n := 1) (N := 4) (by decide) (by decide)) d_M_stretch_102 (fun H locs hP hD hS => ?_)
                  have hP : va_P D vwCl [(b_x, .inr (9, [.ref b_row, .ref b_part, .ref b_mem, .ref b_mrk, .ref b_sf, .ref b_ss, .ref b_sr, .int m_on, .ref b_h, .int m_hc, .ref b_r, .int m_pc, .ref b_in, .int m_giv, .int m_tak, .ref b_out, .int m_put, .int m_st, .int m_cu, .int m_va, .int m_sp, .int m_un, .ref b_k, .int m_kc, .int m_kn, .int m_by, .int m_kd, .int m_tg, .int m_ju])), (b_row, .inl (tc 0, 2400, .inl rowT)), (b_part, .inl (tc 0, 4, .inl (upd m_part (1 : Int32).toNatClampNeg (m_part (0 : Int32).toNatClampNeg))))] H := hP
                  have hD : va_D A [(b_x, .inr (9, [.ref b_row, .ref b_part, .ref b_mem, .ref b_mrk, .ref b_sf, .ref b_ss, .ref b_sr, .int m_on, .ref b_h, .int m_hc, .ref b_r, .int m_pc, .ref b_in, .int m_giv, .int m_tak, .ref b_out, .int m_put, .int m_st, .int m_cu, .int m_va, .int m_sp, .int m_un, .ref b_k, .int m_kc, .int m_kn, .int m_by, .int m_kd, .int m_tg, .int m_ju])), (b_row, .inl (tc 0, 2400, .inl rowT)), (b_part, .inl (tc 0, 4, .inl (upd m_part (1 : Int32).toNatClampNeg (m_part (0 : Int32).toNatClampNeg))))] := hD
                  refine lv_iload hx hb d_M_stretch_103 (lv_at hl 0 rfl) ?_
                  refine lv_if_eq (tgt := 115) hx hb d_M_stretch_105 (by decide) (fun c_105 => absurd c_105 (by decide)) (fun c_105 => ?_)
                  refine lv_aload_n hx hb d_M_stretch_108 rfl (lv_at hl 3 rfl) ?_
                  refine va_get (D := D) (ci := 9) (v := .ref b_part) (C := "StepMachineModel") (T := TX9) (N := 29) hx hb hts inU_9 hown hK hP 0 rfl rfl 1 (by decide) (hts _ a_634) (fun _ h9 => h9) rfl d_M_stretch_109 ?_
                  refine lv_iconst (v := 1) hx hb d_M_stretch_112 (by decide) ?_
                  refine lv_iconst (v := 2) hx hb d_M_stretch_113 (by decide) ?_
                  refine va_iast hx hb hK hP hD hS 2 0 rfl rfl (vp_in_nI (n := 1) (N := 4) (by decide) (by decide)) d_M_stretch_114 (fun H locs hP hD hS => ?_)
                  have hP : va_P D vwCl [(b_x, .inr (9, [.ref b_row, .ref b_part, .ref b_mem, .ref b_mrk, .ref b_sf, .ref b_ss, .ref b_sr, .int m_on, .ref b_h, .int m_hc, .ref b_r, .int m_pc, .ref b_in, .int m_giv, .int m_tak, .ref b_out, .int m_put, .int m_st, .int m_cu, .int m_va, .int m_sp, .int m_un, .ref b_k, .int m_kc, .int m_kn, .int m_by, .int m_kd, .int m_tg, .int m_ju])), (b_row, .inl (tc 0, 2400, .inl rowT)), (b_part, .inl (tc 0, 4, .inl (upd (upd m_part (1 : Int32).toNatClampNeg (m_part (0 : Int32).toNatClampNeg)) (1 : Int32).toNatClampNeg 2)))] H := hP
                  have hD : va_D A [(b_x, .inr (9, [.ref b_row, .ref b_part, .ref b_mem, .ref b_mrk, .ref b_sf, .ref b_ss, .ref b_sr, .int m_on, .ref b_h, .int m_hc, .ref b_r, .int m_pc, .ref b_in, .int m_giv, .int m_tak, .ref b_out, .int m_put, .int m_st, .int m_cu, .int m_va, .int m_sp, .int m_un, .ref b_k, .int m_kc, .int m_kn, .int m_by, .int m_kd, .int m_tg, .int m_ju])), (b_row, .inl (tc 0, 2400, .inl rowT)), (b_part, .inl (tc 0, 4, .inl (upd (upd m_part (1 : Int32).toNatClampNeg (m_part (0 : Int32).toNatClampNeg)) (1 : Int32).toNatClampNeg 2)))] := hD
                  refine lv_iload_n hx hb d_M_stretch_115 rfl (lv_at hl 4 rfl) ?_
                  refine lv_bipush (v := 51) hx hb d_M_stretch_116 (by decide) ?_
                  refine lv_icmp_eq (tgt := 133) hx hb d_M_stretch_118 (by decide) (fun c_118 => absurd c_118 (by rw [c_70]; decide)) (fun c_118 => ?_)
                  refine lv_iload_n hx hb d_M_stretch_121 rfl (lv_at hl 4 rfl) ?_
                  refine lv_bipush (v := 54) hx hb d_M_stretch_122 (by decide) ?_
                  refine lv_icmp_eq (tgt := 133) hx hb d_M_stretch_124 (by decide) (fun c_124 => absurd c_124 (by rw [c_70]; decide)) (fun c_124 => ?_)
                  refine lv_iload_n hx hb d_M_stretch_127 rfl (lv_at hl 4 rfl) ?_
                  refine lv_bipush (v := 70) hx hb d_M_stretch_128 (by decide) ?_
                  refine lv_icmp_ne (tgt := 140) hx hb d_M_stretch_130 (by decide) (fun c_130 => ?_) (fun c_130 => absurd c_130 (by rw [c_70]; decide))
                  refine lv_iload_n hx hb d_M_stretch_140 rfl (lv_at hl 4 rfl) ?_
                  refine lv_bipush (v := 51) hx hb d_M_stretch_141 (by decide) ?_
                  refine lv_icmp_eq (tgt := 158) hx hb d_M_stretch_143 (by decide) (fun c_143 => absurd c_143 (by rw [c_70]; decide)) (fun c_143 => ?_)
                  refine lv_iload_n hx hb d_M_stretch_146 rfl (lv_at hl 4 rfl) ?_
                  refine lv_bipush (v := 64) hx hb d_M_stretch_147 (by decide) ?_
                  refine lv_icmp_eq (tgt := 158) hx hb d_M_stretch_149 (by decide) (fun c_149 => absurd c_149 (by rw [c_70]; decide)) (fun c_149 => ?_)
                  refine lv_iload_n hx hb d_M_stretch_152 rfl (lv_at hl 4 rfl) ?_
                  refine lv_bipush (v := 69) hx hb d_M_stretch_153 (by decide) ?_
                  refine lv_icmp_ne (tgt := 165) hx hb d_M_stretch_155 (by decide) (fun c_155 => ?_) (fun c_155 => absurd c_155 (by rw [c_70]; decide))
                  refine lv_iload_n hx hb d_M_stretch_165 rfl (lv_at hl 4 rfl) ?_
                  refine lv_bipush (v := 53) hx hb d_M_stretch_166 (by decide) ?_
                  refine lv_icmp_eq (tgt := 177) hx hb d_M_stretch_168 (by decide) (fun c_168 => absurd c_168 (by rw [c_70]; decide)) (fun c_168 => ?_)
                  refine lv_iload_n hx hb d_M_stretch_171 rfl (lv_at hl 4 rfl) ?_
                  refine lv_bipush (v := 72) hx hb d_M_stretch_172 (by decide) ?_
                  refine lv_icmp_ne (tgt := 184) hx hb d_M_stretch_174 (by decide) (fun c_174 => ?_) (fun c_174 => absurd c_174 (by rw [c_70]; decide))
                  refine lv_iload_n hx hb d_M_stretch_184 rfl (lv_at hl 4 rfl) ?_
                  refine lv_bipush (v := 55) hx hb d_M_stretch_185 (by decide) ?_
                  refine lv_icmp_ne (tgt := 197) hx hb d_M_stretch_187 (by decide) (fun c_187 => absurd c_70 c_187) (fun c_187 => ?_)
                  refine lv_aload_n hx hb d_M_stretch_190 rfl (lv_at hl 3 rfl) ?_
                  refine va_get (D := D) (ci := 9) (v := .ref b_part) (C := "StepMachineModel") (T := TX9) (N := 29) hx hb hts inU_9 hown hK hP 0 rfl rfl 1 (by decide) (hts _ a_634) (fun _ h9 => h9) rfl d_M_stretch_191 ?_
                  refine lv_iconst (v := 0) hx hb d_M_stretch_194 (by decide) ?_
                  refine lv_iconst (v := 2) hx hb d_M_stretch_195 (by decide) ?_
                  refine va_iast hx hb hK hP hD hS 2 0 rfl rfl (vp_in_nI (n := 0) (N := 4) (by decide) (by decide)) d_M_stretch_196 (fun H locs hP hD hS => ?_)
                  have hP : va_P D vwCl [(b_x, .inr (9, [.ref b_row, .ref b_part, .ref b_mem, .ref b_mrk, .ref b_sf, .ref b_ss, .ref b_sr, .int m_on, .ref b_h, .int m_hc, .ref b_r, .int m_pc, .ref b_in, .int m_giv, .int m_tak, .ref b_out, .int m_put, .int m_st, .int m_cu, .int m_va, .int m_sp, .int m_un, .ref b_k, .int m_kc, .int m_kn, .int m_by, .int m_kd, .int m_tg, .int m_ju])), (b_row, .inl (tc 0, 2400, .inl rowT)), (b_part, .inl (tc 0, 4, .inl (upd (upd (upd m_part (1 : Int32).toNatClampNeg (m_part (0 : Int32).toNatClampNeg)) (1 : Int32).toNatClampNeg 2) (0 : Int32).toNatClampNeg 2)))] H := hP
                  have hD : va_D A [(b_x, .inr (9, [.ref b_row, .ref b_part, .ref b_mem, .ref b_mrk, .ref b_sf, .ref b_ss, .ref b_sr, .int m_on, .ref b_h, .int m_hc, .ref b_r, .int m_pc, .ref b_in, .int m_giv, .int m_tak, .ref b_out, .int m_put, .int m_st, .int m_cu, .int m_va, .int m_sp, .int m_un, .ref b_k, .int m_kc, .int m_kn, .int m_by, .int m_kd, .int m_tg, .int m_ju])), (b_row, .inl (tc 0, 2400, .inl rowT)), (b_part, .inl (tc 0, 4, .inl (upd (upd (upd m_part (1 : Int32).toNatClampNeg (m_part (0 : Int32).toNatClampNeg)) (1 : Int32).toNatClampNeg 2) (0 : Int32).toNatClampNeg 2)))] := hD
                  refine lv_iload_n hx hb d_M_stretch_197 rfl (lv_at hl 4 rfl) ?_
                  refine lv_bipush (v := 65) hx hb d_M_stretch_198 (by decide) ?_
                  refine lv_icmp_eq (tgt := 209) hx hb d_M_stretch_200 (by decide) (fun c_200 => absurd c_200 (by rw [c_70]; decide)) (fun c_200 => ?_)
                  refine lv_iload_n hx hb d_M_stretch_203 rfl (lv_at hl 4 rfl) ?_
                  refine lv_bipush (v := 66) hx hb d_M_stretch_204 (by decide) ?_
                  refine lv_icmp_ne (tgt := 216) hx hb d_M_stretch_206 (by decide) (fun c_206 => ?_) (fun c_206 => absurd c_206 (by rw [c_70]; decide))
                  refine lv_iload_n hx hb d_M_stretch_216 rfl (lv_at hl 4 rfl) ?_
                  refine lv_bipush (v := 51) hx hb d_M_stretch_217 (by decide) ?_
                  refine lv_icmp_eq (tgt := 234) hx hb d_M_stretch_219 (by decide) (fun c_219 => absurd c_219 (by rw [c_70]; decide)) (fun c_219 => ?_)
                  refine lv_iload_n hx hb d_M_stretch_222 rfl (lv_at hl 4 rfl) ?_
                  refine lv_bipush (v := 69) hx hb d_M_stretch_223 (by decide) ?_
                  refine lv_icmp_eq (tgt := 234) hx hb d_M_stretch_225 (by decide) (fun c_225 => absurd c_225 (by rw [c_70]; decide)) (fun c_225 => ?_)
                  refine lv_iload_n hx hb d_M_stretch_228 rfl (lv_at hl 4 rfl) ?_
                  refine lv_bipush (v := 72) hx hb d_M_stretch_229 (by decide) ?_
                  refine lv_icmp_ne (tgt := 241) hx hb d_M_stretch_231 (by decide) (fun c_231 => ?_) (fun c_231 => absurd c_231 (by rw [c_70]; decide))
                  refine lv_aload_n hx hb d_M_stretch_241 rfl (lv_at hl 3 rfl) ?_
                  refine lv_iload_n hx hb d_M_stretch_242 rfl (lv_at hl 4 rfl) ?_
                  refine roSi (As := [.int x0]) (rest := [.ref b_x]) ⟨hx, hb, hml, hown, hts⟩ (mc_StepMachineModel_longKind l D tc tb z0 x0) (va_cwS 1 hts (goodS a_827 a_828 a_10 a_829) rfl rfl rfl hs_M_longKind ⟨Nat.le_of_ble_eq_true rfl, Nat.le_of_ble_eq_true rfl⟩) (hP.sub [] rfl) hK (hB.kept hS hZ) rfl hl.1 rfl (Nat.le_of_ble_eq_true rfl) d_M_stretch_243 ⟨Nat.zero_le _, Nat.zero_le _⟩ ?_
                  refine roVi (As := [.int (mF_StepMachineModel_longKind x0)]) (rest := []) ⟨hx, hb, hml, hown, hts⟩ (mc_StepMachineModel_put l D tc tb z0 b_x b_row b_part b_mem b_mrk b_sf b_ss b_sr b_h b_r b_in b_out b_k m_on m_hc m_pc m_giv m_tak m_put m_st m_cu m_va m_sp m_un m_kc m_kn m_by m_kd m_tg m_ju (upd (upd (upd m_part (1 : Int32).toNatClampNeg (m_part (0 : Int32).toNatClampNeg)) (1 : Int32).toNatClampNeg 2) (0 : Int32).toNatClampNeg 2) (mF_StepMachineModel_longKind x0) (lk_rng _)) (cwV 1 hts (goodV a_830 a_831 a_934 a_10 a_832) rfl rfl rfl hv_M_put ⟨Nat.le_of_ble_eq_true rfl, Nat.le_of_ble_eq_true rfl⟩) (hP.sub [0, 1, 2] rfl) hK (hB.kept hS hZ) rfl rfl rfl hl.1 rfl (Nat.le_of_ble_eq_true rfl) d_M_stretch_246 ⟨Nat.zero_le _, Nat.zero_le _⟩ ?_
                  exact W.iret (v := (mF_StepMachineModel_put (upd (upd (upd m_part (1 : Int32).toNatClampNeg (m_part (0 : Int32).toNatClampNeg)) (1 : Int32).toNatClampNeg 2) (0 : Int32).toNatClampNeg 2) (mF_StepMachineModel_longKind x0))) hx hb hr (fun t ht hW => ⟨⟨_, (upd (upd (upd m_part (1 : Int32).toNatClampNeg (m_part (0 : Int32).toNatClampNeg)) (1 : Int32).toNatClampNeg 2) (0 : Int32).toNatClampNeg 2), rfl, by rw [mF_StepMachineModel_stretch, if_neg c_10, if_neg c_16, if_neg c_22, if_neg c_28, if_neg c_34, if_pos c_40, if_neg c_64, if_pos c_70], by rw [ht]; exact hP, va_K.moved hW.alike hK, hD⟩, hS.F ht⟩) hS.2.2 d_M_stretch_249
                · skip
                  refine lv_iload_n hx hb d_M_stretch_73 rfl (lv_at hl 3 rfl) ?_
                  refine lv_bipush (v := 68) hx hb d_M_stretch_74 (by decide) ?_
                  refine lv_icmp_eq (tgt := 85) hx hb d_M_stretch_76 (by decide) (fun c_76 => ?_) (fun c_76 => ?_)
                  · skip
                    refine lv_iconst (v := 1) hx hb d_M_stretch_85 (by decide) ?_
                    refine lv_goto (tgt := 90) hx hb d_M_stretch_86 (by decide) ?_
                    refine lv_istore (lv' := [(4, .int 1), (3, .int 1), (2, .int (m_part (0 : Int32).toNatClampNeg)), (0, .ref b_x), (1, .int x0)]) hx hb d_M_stretch_90 hl (by decide) rfl (fun ls hl => ?_)
                    refine lv_iload_n hx hb d_M_stretch_92 rfl (lv_at hl 1 rfl) ?_
                    refine lv_if_eq (tgt := 103) hx hb d_M_stretch_93 (by decide) (fun c_93 => absurd c_93 (by decide)) (fun c_93 => ?_)
                    refine lv_aload_n hx hb d_M_stretch_96 rfl (lv_at hl 3 rfl) ?_
                    refine va_get (D := D) (ci := 9) (v := .ref b_part) (C := "StepMachineModel") (T := TX9) (N := 29) hx hb hts inU_9 hown hK hP 0 rfl rfl 1 (by decide) (hts _ a_634) (fun _ h9 => h9) rfl d_M_stretch_97 ?_
                    refine lv_iconst (v := 1) hx hb d_M_stretch_100 (by decide) ?_
                    refine lv_iload_n hx hb d_M_stretch_101 rfl (lv_at hl 2 rfl) ?_
                    refine va_iast hx hb hK hP hD hS 2 0 rfl rfl (vp_in_nI (n := 1) (N := 4) (by decide) (by decide)) d_M_stretch_102 (fun H locs hP hD hS => ?_)
                    have hP : va_P D vwCl [(b_x, .inr (9, [.ref b_row, .ref b_part, .ref b_mem, .ref b_mrk, .ref b_sf, .ref b_ss, .ref b_sr, .int m_on, .ref b_h, .int m_hc, .ref b_r, .int m_pc, .ref b_in, .int m_giv, .int m_tak, .ref b_out, .int m_put, .int m_st, .int m_cu, .int m_va, .int m_sp, .int m_un, .ref b_k, .int m_kc, .int m_kn, .int m_by, .int m_kd, .int m_tg, .int m_ju])), (b_row, .inl (tc 0, 2400, .inl rowT)), (b_part, .inl (tc 0, 4, .inl (upd m_part (1 : Int32).toNatClampNeg (m_part (0 : Int32).toNatClampNeg))))] H := hP
                    have hD : va_D A [(b_x, .inr (9, [.ref b_row, .ref b_part, .ref b_mem, .ref b_mrk, .ref b_sf, .ref b_ss, .ref b_sr, .int m_on, .ref b_h, .int m_hc, .ref b_r, .int m_pc, .ref b_in, .int m_giv, .int m_tak, .ref b_out, .int m_put, .int m_st, .int m_cu, .int m_va, .int m_sp, .int m_un, .ref b_k, .int m_kc, .int m_kn, .int m_by, .int m_kd, .int m_tg, .int m_ju])), (b_row, .inl (tc 0, 2400, .inl rowT)), (b_part, .inl (tc 0, 4, .inl (upd m_part (1 : Int32).toNatClampNeg (m_part (0 : Int32).toNatClampNeg))))] := hD
                    refine lv_iload hx hb d_M_stretch_103 (lv_at hl 0 rfl) ?_
                    refine lv_if_eq (tgt := 115) hx hb d_M_stretch_105 (by decide) (fun c_105 => absurd c_105 (by decide)) (fun c_105 => ?_)
                    refine lv_aload_n hx hb d_M_stretch_108 rfl (lv_at hl 3 rfl) ?_
                    refine va_get (D := D) (ci := 9) (v := .ref b_part) (C := "StepMachineModel") (T := TX9) (N := 29) hx hb hts inU_9 hown hK hP 0 rfl rfl 1 (by decide) (hts _ a_634) (fun _ h9 => h9) rfl d_M_stretch_109 ?_
                    refine lv_iconst (v := 1) hx hb d_M_stretch_112 (by decide) ?_
                    refine lv_iconst (v := 2) hx hb d_M_stretch_113 (by decide) ?_
                    refine va_iast hx hb hK hP hD hS 2 0 rfl rfl (vp_in_nI (n := 1) (N := 4) (by decide) (by decide)) d_M_stretch_114 (fun H locs hP hD hS => ?_)
                    have hP : va_P D vwCl [(b_x, .inr (9, [.ref b_row, .ref b_part, .ref b_mem, .ref b_mrk, .ref b_sf, .ref b_ss, .ref b_sr, .int m_on, .ref b_h, .int m_hc, .ref b_r, .int m_pc, .ref b_in, .int m_giv, .int m_tak, .ref b_out, .int m_put, .int m_st, .int m_cu, .int m_va, .int m_sp, .int m_un, .ref b_k, .int m_kc, .int m_kn, .int m_by, .int m_kd, .int m_tg, .int m_ju])), (b_row, .inl (tc 0, 2400, .inl rowT)), (b_part, .inl (tc 0, 4, .inl (upd (upd m_part (1 : Int32).toNatClampNeg (m_part (0 : Int32).toNatClampNeg)) (1 : Int32).toNatClampNeg 2)))] H := hP
                    have hD : va_D A [(b_x, .inr (9, [.ref b_row, .ref b_part, .ref b_mem, .ref b_mrk, .ref b_sf, .ref b_ss, .ref b_sr, .int m_on, .ref b_h, .int m_hc, .ref b_r, .int m_pc, .ref b_in, .int m_giv, .int m_tak, .ref b_out, .int m_put, .int m_st, .int m_cu, .int m_va, .int m_sp, .int m_un, .ref b_k, .int m_kc, .int m_kn, .int m_by, .int m_kd, .int m_tg, .int m_ju])), (b_row, .inl (tc 0, 2400, .inl rowT)), (b_part, .inl (tc 0, 4, .inl (upd (upd m_part (1 : Int32).toNatClampNeg (m_part (0 : Int32).toNatClampNeg)) (1 : Int32).toNatClampNeg 2)))] := hD
                    refine lv_iload_n hx hb d_M_stretch_115 rfl (lv_at hl 4 rfl) ?_
                    refine lv_bipush (v := 51) hx hb d_M_stretch_116 (by decide) ?_
                    refine lv_icmp_eq (tgt := 133) hx hb d_M_stretch_118 (by decide) (fun c_118 => absurd c_118 (by rw [c_76]; decide)) (fun c_118 => ?_)
                    refine lv_iload_n hx hb d_M_stretch_121 rfl (lv_at hl 4 rfl) ?_
                    refine lv_bipush (v := 54) hx hb d_M_stretch_122 (by decide) ?_
                    refine lv_icmp_eq (tgt := 133) hx hb d_M_stretch_124 (by decide) (fun c_124 => absurd c_124 (by rw [c_76]; decide)) (fun c_124 => ?_)
                    refine lv_iload_n hx hb d_M_stretch_127 rfl (lv_at hl 4 rfl) ?_
                    refine lv_bipush (v := 70) hx hb d_M_stretch_128 (by decide) ?_
                    refine lv_icmp_ne (tgt := 140) hx hb d_M_stretch_130 (by decide) (fun c_130 => ?_) (fun c_130 => absurd c_130 (by rw [c_76]; decide))
                    refine lv_iload_n hx hb d_M_stretch_140 rfl (lv_at hl 4 rfl) ?_
                    refine lv_bipush (v := 51) hx hb d_M_stretch_141 (by decide) ?_
                    refine lv_icmp_eq (tgt := 158) hx hb d_M_stretch_143 (by decide) (fun c_143 => absurd c_143 (by rw [c_76]; decide)) (fun c_143 => ?_)
                    refine lv_iload_n hx hb d_M_stretch_146 rfl (lv_at hl 4 rfl) ?_
                    refine lv_bipush (v := 64) hx hb d_M_stretch_147 (by decide) ?_
                    refine lv_icmp_eq (tgt := 158) hx hb d_M_stretch_149 (by decide) (fun c_149 => absurd c_149 (by rw [c_76]; decide)) (fun c_149 => ?_)
                    refine lv_iload_n hx hb d_M_stretch_152 rfl (lv_at hl 4 rfl) ?_
                    refine lv_bipush (v := 69) hx hb d_M_stretch_153 (by decide) ?_
                    refine lv_icmp_ne (tgt := 165) hx hb d_M_stretch_155 (by decide) (fun c_155 => ?_) (fun c_155 => absurd c_155 (by rw [c_76]; decide))
                    refine lv_iload_n hx hb d_M_stretch_165 rfl (lv_at hl 4 rfl) ?_
                    refine lv_bipush (v := 53) hx hb d_M_stretch_166 (by decide) ?_
                    refine lv_icmp_eq (tgt := 177) hx hb d_M_stretch_168 (by decide) (fun c_168 => absurd c_168 (by rw [c_76]; decide)) (fun c_168 => ?_)
                    refine lv_iload_n hx hb d_M_stretch_171 rfl (lv_at hl 4 rfl) ?_
                    refine lv_bipush (v := 72) hx hb d_M_stretch_172 (by decide) ?_
                    refine lv_icmp_ne (tgt := 184) hx hb d_M_stretch_174 (by decide) (fun c_174 => ?_) (fun c_174 => absurd c_174 (by rw [c_76]; decide))
                    refine lv_iload_n hx hb d_M_stretch_184 rfl (lv_at hl 4 rfl) ?_
                    refine lv_bipush (v := 55) hx hb d_M_stretch_185 (by decide) ?_
                    refine lv_icmp_ne (tgt := 197) hx hb d_M_stretch_187 (by decide) (fun c_187 => ?_) (fun c_187 => absurd c_187 c_70)
                    refine lv_iload_n hx hb d_M_stretch_197 rfl (lv_at hl 4 rfl) ?_
                    refine lv_bipush (v := 65) hx hb d_M_stretch_198 (by decide) ?_
                    refine lv_icmp_eq (tgt := 209) hx hb d_M_stretch_200 (by decide) (fun c_200 => absurd c_200 (by rw [c_76]; decide)) (fun c_200 => ?_)
                    refine lv_iload_n hx hb d_M_stretch_203 rfl (lv_at hl 4 rfl) ?_
                    refine lv_bipush (v := 66) hx hb d_M_stretch_204 (by decide) ?_
                    refine lv_icmp_ne (tgt := 216) hx hb d_M_stretch_206 (by decide) (fun c_206 => ?_) (fun c_206 => absurd c_206 (by rw [c_76]; decide))
                    refine lv_iload_n hx hb d_M_stretch_216 rfl (lv_at hl 4 rfl) ?_
                    refine lv_bipush (v := 51) hx hb d_M_stretch_217 (by decide) ?_
                    refine lv_icmp_eq (tgt := 234) hx hb d_M_stretch_219 (by decide) (fun c_219 => absurd c_219 (by rw [c_76]; decide)) (fun c_219 => ?_)
                    refine lv_iload_n hx hb d_M_stretch_222 rfl (lv_at hl 4 rfl) ?_
                    refine lv_bipush (v := 69) hx hb d_M_stretch_223 (by decide) ?_
                    refine lv_icmp_eq (tgt := 234) hx hb d_M_stretch_225 (by decide) (fun c_225 => absurd c_225 (by rw [c_76]; decide)) (fun c_225 => ?_)
                    refine lv_iload_n hx hb d_M_stretch_228 rfl (lv_at hl 4 rfl) ?_
                    refine lv_bipush (v := 72) hx hb d_M_stretch_229 (by decide) ?_
                    refine lv_icmp_ne (tgt := 241) hx hb d_M_stretch_231 (by decide) (fun c_231 => ?_) (fun c_231 => absurd c_231 (by rw [c_76]; decide))
                    refine lv_aload_n hx hb d_M_stretch_241 rfl (lv_at hl 3 rfl) ?_
                    refine lv_iload_n hx hb d_M_stretch_242 rfl (lv_at hl 4 rfl) ?_
                    refine roSi (As := [.int x0]) (rest := [.ref b_x]) ⟨hx, hb, hml, hown, hts⟩ (mc_StepMachineModel_longKind l D tc tb z0 x0) (va_cwS 1 hts (goodS a_827 a_828 a_10 a_829) rfl rfl rfl hs_M_longKind ⟨Nat.le_of_ble_eq_true rfl, Nat.le_of_ble_eq_true rfl⟩) (hP.sub [] rfl) hK (hB.kept hS hZ) rfl hl.1 rfl (Nat.le_of_ble_eq_true rfl) d_M_stretch_243 ⟨Nat.zero_le _, Nat.zero_le _⟩ ?_
                    refine roVi (As := [.int (mF_StepMachineModel_longKind x0)]) (rest := []) ⟨hx, hb, hml, hown, hts⟩ (mc_StepMachineModel_put l D tc tb z0 b_x b_row b_part b_mem b_mrk b_sf b_ss b_sr b_h b_r b_in b_out b_k m_on m_hc m_pc m_giv m_tak m_put m_st m_cu m_va m_sp m_un m_kc m_kn m_by m_kd m_tg m_ju (upd (upd m_part (1 : Int32).toNatClampNeg (m_part (0 : Int32).toNatClampNeg)) (1 : Int32).toNatClampNeg 2) (mF_StepMachineModel_longKind x0) (lk_rng _)) (cwV 1 hts (goodV a_830 a_831 a_934 a_10 a_832) rfl rfl rfl hv_M_put ⟨Nat.le_of_ble_eq_true rfl, Nat.le_of_ble_eq_true rfl⟩) (hP.sub [0, 1, 2] rfl) hK (hB.kept hS hZ) rfl rfl rfl hl.1 rfl (Nat.le_of_ble_eq_true rfl) d_M_stretch_246 ⟨Nat.zero_le _, Nat.zero_le _⟩ ?_
                    exact W.iret (v := (mF_StepMachineModel_put (upd (upd m_part (1 : Int32).toNatClampNeg (m_part (0 : Int32).toNatClampNeg)) (1 : Int32).toNatClampNeg 2) (mF_StepMachineModel_longKind x0))) hx hb hr (fun t ht hW => ⟨⟨_, (upd (upd m_part (1 : Int32).toNatClampNeg (m_part (0 : Int32).toNatClampNeg)) (1 : Int32).toNatClampNeg 2), rfl, by rw [mF_StepMachineModel_stretch, if_neg c_10, if_neg c_16, if_neg c_22, if_neg c_28, if_neg c_34, if_pos c_40, if_neg c_64, if_neg c_70, if_pos c_76], by rw [ht]; exact hP, va_K.moved hW.alike hK, hD⟩, hS.F ht⟩) hS.2.2 d_M_stretch_249
                  · skip
                    refine lv_iload_n hx hb d_M_stretch_79 rfl (lv_at hl 3 rfl) ?_
                    refine lv_bipush (v := 74) hx hb d_M_stretch_80 (by decide) ?_
                    refine lv_icmp_ne (tgt := 89) hx hb d_M_stretch_82 (by decide) (fun c_82 => ?_) (fun c_82 => ?_)
                    · skip
                      refine lv_iconst (v := 0) hx hb d_M_stretch_89 (by decide) ?_
                      refine lv_istore (lv' := [(4, .int 0), (3, .int 1), (2, .int (m_part (0 : Int32).toNatClampNeg)), (0, .ref b_x), (1, .int x0)]) hx hb d_M_stretch_90 hl (by decide) rfl (fun ls hl => ?_)
                      refine lv_iload_n hx hb d_M_stretch_92 rfl (lv_at hl 1 rfl) ?_
                      refine lv_if_eq (tgt := 103) hx hb d_M_stretch_93 (by decide) (fun c_93 => absurd c_93 (by decide)) (fun c_93 => ?_)
                      refine lv_aload_n hx hb d_M_stretch_96 rfl (lv_at hl 3 rfl) ?_
                      refine va_get (D := D) (ci := 9) (v := .ref b_part) (C := "StepMachineModel") (T := TX9) (N := 29) hx hb hts inU_9 hown hK hP 0 rfl rfl 1 (by decide) (hts _ a_634) (fun _ h9 => h9) rfl d_M_stretch_97 ?_
                      refine lv_iconst (v := 1) hx hb d_M_stretch_100 (by decide) ?_
                      refine lv_iload_n hx hb d_M_stretch_101 rfl (lv_at hl 2 rfl) ?_
                      refine va_iast hx hb hK hP hD hS 2 0 rfl rfl (vp_in_nI (n := 1) (N := 4) (by decide) (by decide)) d_M_stretch_102 (fun H locs hP hD hS => ?_)
                      have hP : va_P D vwCl [(b_x, .inr (9, [.ref b_row, .ref b_part, .ref b_mem, .ref b_mrk, .ref b_sf, .ref b_ss, .ref b_sr, .int m_on, .ref b_h, .int m_hc, .ref b_r, .int m_pc, .ref b_in, .int m_giv, .int m_tak, .ref b_out, .int m_put, .int m_st, .int m_cu, .int m_va, .int m_sp, .int m_un, .ref b_k, .int m_kc, .int m_kn, .int m_by, .int m_kd, .int m_tg, .int m_ju])), (b_row, .inl (tc 0, 2400, .inl rowT)), (b_part, .inl (tc 0, 4, .inl (upd m_part (1 : Int32).toNatClampNeg (m_part (0 : Int32).toNatClampNeg))))] H := hP
                      have hD : va_D A [(b_x, .inr (9, [.ref b_row, .ref b_part, .ref b_mem, .ref b_mrk, .ref b_sf, .ref b_ss, .ref b_sr, .int m_on, .ref b_h, .int m_hc, .ref b_r, .int m_pc, .ref b_in, .int m_giv, .int m_tak, .ref b_out, .int m_put, .int m_st, .int m_cu, .int m_va, .int m_sp, .int m_un, .ref b_k, .int m_kc, .int m_kn, .int m_by, .int m_kd, .int m_tg, .int m_ju])), (b_row, .inl (tc 0, 2400, .inl rowT)), (b_part, .inl (tc 0, 4, .inl (upd m_part (1 : Int32).toNatClampNeg (m_part (0 : Int32).toNatClampNeg))))] := hD
                      refine lv_iload hx hb d_M_stretch_103 (lv_at hl 0 rfl) ?_
                      refine lv_if_eq (tgt := 115) hx hb d_M_stretch_105 (by decide) (fun c_105 => ?_) (fun c_105 => absurd c_105 (by decide))
                      refine lv_iload_n hx hb d_M_stretch_115 rfl (lv_at hl 4 rfl) ?_
                      refine lv_bipush (v := 51) hx hb d_M_stretch_116 (by decide) ?_
                      refine lv_icmp_eq (tgt := 133) hx hb d_M_stretch_118 (by decide) (fun c_118 => ?_) (fun c_118 => ?_)
                      · skip
                        refine lv_aload_n hx hb d_M_stretch_133 rfl (lv_at hl 3 rfl) ?_
                        refine va_get (D := D) (ci := 9) (v := .ref b_part) (C := "StepMachineModel") (T := TX9) (N := 29) hx hb hts inU_9 hown hK hP 0 rfl rfl 1 (by decide) (hts _ a_634) (fun _ h9 => h9) rfl d_M_stretch_134 ?_
                        refine lv_iconst (v := 1) hx hb d_M_stretch_137 (by decide) ?_
                        refine lv_iconst (v := 0) hx hb d_M_stretch_138 (by decide) ?_
                        refine va_iast hx hb hK hP hD hS 2 0 rfl rfl (vp_in_nI (n := 1) (N := 4) (by decide) (by decide)) d_M_stretch_139 (fun H locs hP hD hS => ?_)
                        have hP : va_P D vwCl [(b_x, .inr (9, [.ref b_row, .ref b_part, .ref b_mem, .ref b_mrk, .ref b_sf, .ref b_ss, .ref b_sr, .int m_on, .ref b_h, .int m_hc, .ref b_r, .int m_pc, .ref b_in, .int m_giv, .int m_tak, .ref b_out, .int m_put, .int m_st, .int m_cu, .int m_va, .int m_sp, .int m_un, .ref b_k, .int m_kc, .int m_kn, .int m_by, .int m_kd, .int m_tg, .int m_ju])), (b_row, .inl (tc 0, 2400, .inl rowT)), (b_part, .inl (tc 0, 4, .inl (upd (upd m_part (1 : Int32).toNatClampNeg (m_part (0 : Int32).toNatClampNeg)) (1 : Int32).toNatClampNeg 0)))] H := hP
                        have hD : va_D A [(b_x, .inr (9, [.ref b_row, .ref b_part, .ref b_mem, .ref b_mrk, .ref b_sf, .ref b_ss, .ref b_sr, .int m_on, .ref b_h, .int m_hc, .ref b_r, .int m_pc, .ref b_in, .int m_giv, .int m_tak, .ref b_out, .int m_put, .int m_st, .int m_cu, .int m_va, .int m_sp, .int m_un, .ref b_k, .int m_kc, .int m_kn, .int m_by, .int m_kd, .int m_tg, .int m_ju])), (b_row, .inl (tc 0, 2400, .inl rowT)), (b_part, .inl (tc 0, 4, .inl (upd (upd m_part (1 : Int32).toNatClampNeg (m_part (0 : Int32).toNatClampNeg)) (1 : Int32).toNatClampNeg 0)))] := hD
                        refine lv_iload_n hx hb d_M_stretch_140 rfl (lv_at hl 4 rfl) ?_
                        refine lv_bipush (v := 51) hx hb d_M_stretch_141 (by decide) ?_
                        refine lv_icmp_eq (tgt := 158) hx hb d_M_stretch_143 (by decide) (fun c_143 => ?_) (fun c_143 => absurd c_118 c_143)
                        refine lv_aload_n hx hb d_M_stretch_158 rfl (lv_at hl 3 rfl) ?_
                        refine va_get (D := D) (ci := 9) (v := .ref b_part) (C := "StepMachineModel") (T := TX9) (N := 29) hx hb hts inU_9 hown hK hP 0 rfl rfl 1 (by decide) (hts _ a_634) (fun _ h9 => h9) rfl d_M_stretch_159 ?_
                        refine lv_iconst (v := 0) hx hb d_M_stretch_162 (by decide) ?_
                        refine lv_iconst (v := 0) hx hb d_M_stretch_163 (by decide) ?_
                        refine va_iast hx hb hK hP hD hS 2 0 rfl rfl (vp_in_nI (n := 0) (N := 4) (by decide) (by decide)) d_M_stretch_164 (fun H locs hP hD hS => ?_)
                        have hP : va_P D vwCl [(b_x, .inr (9, [.ref b_row, .ref b_part, .ref b_mem, .ref b_mrk, .ref b_sf, .ref b_ss, .ref b_sr, .int m_on, .ref b_h, .int m_hc, .ref b_r, .int m_pc, .ref b_in, .int m_giv, .int m_tak, .ref b_out, .int m_put, .int m_st, .int m_cu, .int m_va, .int m_sp, .int m_un, .ref b_k, .int m_kc, .int m_kn, .int m_by, .int m_kd, .int m_tg, .int m_ju])), (b_row, .inl (tc 0, 2400, .inl rowT)), (b_part, .inl (tc 0, 4, .inl (upd (upd (upd m_part (1 : Int32).toNatClampNeg (m_part (0 : Int32).toNatClampNeg)) (1 : Int32).toNatClampNeg 0) (0 : Int32).toNatClampNeg 0)))] H := hP
                        have hD : va_D A [(b_x, .inr (9, [.ref b_row, .ref b_part, .ref b_mem, .ref b_mrk, .ref b_sf, .ref b_ss, .ref b_sr, .int m_on, .ref b_h, .int m_hc, .ref b_r, .int m_pc, .ref b_in, .int m_giv, .int m_tak, .ref b_out, .int m_put, .int m_st, .int m_cu, .int m_va, .int m_sp, .int m_un, .ref b_k, .int m_kc, .int m_kn, .int m_by, .int m_kd, .int m_tg, .int m_ju])), (b_row, .inl (tc 0, 2400, .inl rowT)), (b_part, .inl (tc 0, 4, .inl (upd (upd (upd m_part (1 : Int32).toNatClampNeg (m_part (0 : Int32).toNatClampNeg)) (1 : Int32).toNatClampNeg 0) (0 : Int32).toNatClampNeg 0)))] := hD
                        refine lv_iload_n hx hb d_M_stretch_165 rfl (lv_at hl 4 rfl) ?_
                        refine lv_bipush (v := 53) hx hb d_M_stretch_166 (by decide) ?_
                        refine lv_icmp_eq (tgt := 177) hx hb d_M_stretch_168 (by decide) (fun c_168 => absurd c_168 (by rw [c_118]; decide)) (fun c_168 => ?_)
                        refine lv_iload_n hx hb d_M_stretch_171 rfl (lv_at hl 4 rfl) ?_
                        refine lv_bipush (v := 72) hx hb d_M_stretch_172 (by decide) ?_
                        refine lv_icmp_ne (tgt := 184) hx hb d_M_stretch_174 (by decide) (fun c_174 => ?_) (fun c_174 => absurd c_174 (by rw [c_118]; decide))
                        refine lv_iload_n hx hb d_M_stretch_184 rfl (lv_at hl 4 rfl) ?_
                        refine lv_bipush (v := 55) hx hb d_M_stretch_185 (by decide) ?_
                        refine lv_icmp_ne (tgt := 197) hx hb d_M_stretch_187 (by decide) (fun c_187 => ?_) (fun c_187 => absurd c_187 c_70)
                        refine lv_iload_n hx hb d_M_stretch_197 rfl (lv_at hl 4 rfl) ?_
                        refine lv_bipush (v := 65) hx hb d_M_stretch_198 (by decide) ?_
                        refine lv_icmp_eq (tgt := 209) hx hb d_M_stretch_200 (by decide) (fun c_200 => absurd c_200 (by rw [c_118]; decide)) (fun c_200 => ?_)
                        refine lv_iload_n hx hb d_M_stretch_203 rfl (lv_at hl 4 rfl) ?_
                        refine lv_bipush (v := 66) hx hb d_M_stretch_204 (by decide) ?_
                        refine lv_icmp_ne (tgt := 216) hx hb d_M_stretch_206 (by decide) (fun c_206 => ?_) (fun c_206 => absurd c_206 (by rw [c_118]; decide))
                        refine lv_iload_n hx hb d_M_stretch_216 rfl (lv_at hl 4 rfl) ?_
                        refine lv_bipush (v := 51) hx hb d_M_stretch_217 (by decide) ?_
                        refine lv_icmp_eq (tgt := 234) hx hb d_M_stretch_219 (by decide) (fun c_219 => ?_) (fun c_219 => absurd c_118 c_219)
                        refine lv_aload_n hx hb d_M_stretch_234 rfl (lv_at hl 3 rfl) ?_
                        refine va_get (D := D) (ci := 9) (v := .ref b_part) (C := "StepMachineModel") (T := TX9) (N := 29) hx hb hts inU_9 hown hK hP 0 rfl rfl 1 (by decide) (hts _ a_634) (fun _ h9 => h9) rfl d_M_stretch_235 ?_
                        refine lv_iconst (v := 3) hx hb d_M_stretch_238 (by decide) ?_
                        refine lv_iconst (v := 0) hx hb d_M_stretch_239 (by decide) ?_
                        refine va_iast hx hb hK hP hD hS 2 0 rfl rfl (vp_in_nI (n := 3) (N := 4) (by decide) (by decide)) d_M_stretch_240 (fun H locs hP hD hS => ?_)
                        have hP : va_P D vwCl [(b_x, .inr (9, [.ref b_row, .ref b_part, .ref b_mem, .ref b_mrk, .ref b_sf, .ref b_ss, .ref b_sr, .int m_on, .ref b_h, .int m_hc, .ref b_r, .int m_pc, .ref b_in, .int m_giv, .int m_tak, .ref b_out, .int m_put, .int m_st, .int m_cu, .int m_va, .int m_sp, .int m_un, .ref b_k, .int m_kc, .int m_kn, .int m_by, .int m_kd, .int m_tg, .int m_ju])), (b_row, .inl (tc 0, 2400, .inl rowT)), (b_part, .inl (tc 0, 4, .inl (upd (upd (upd (upd m_part (1 : Int32).toNatClampNeg (m_part (0 : Int32).toNatClampNeg)) (1 : Int32).toNatClampNeg 0) (0 : Int32).toNatClampNeg 0) (3 : Int32).toNatClampNeg 0)))] H := hP
                        have hD : va_D A [(b_x, .inr (9, [.ref b_row, .ref b_part, .ref b_mem, .ref b_mrk, .ref b_sf, .ref b_ss, .ref b_sr, .int m_on, .ref b_h, .int m_hc, .ref b_r, .int m_pc, .ref b_in, .int m_giv, .int m_tak, .ref b_out, .int m_put, .int m_st, .int m_cu, .int m_va, .int m_sp, .int m_un, .ref b_k, .int m_kc, .int m_kn, .int m_by, .int m_kd, .int m_tg, .int m_ju])), (b_row, .inl (tc 0, 2400, .inl rowT)), (b_part, .inl (tc 0, 4, .inl (upd (upd (upd (upd m_part (1 : Int32).toNatClampNeg (m_part (0 : Int32).toNatClampNeg)) (1 : Int32).toNatClampNeg 0) (0 : Int32).toNatClampNeg 0) (3 : Int32).toNatClampNeg 0)))] := hD
                        refine lv_aload_n hx hb d_M_stretch_241 rfl (lv_at hl 3 rfl) ?_
                        refine lv_iload_n hx hb d_M_stretch_242 rfl (lv_at hl 4 rfl) ?_
                        refine roSi (As := [.int x0]) (rest := [.ref b_x]) ⟨hx, hb, hml, hown, hts⟩ (mc_StepMachineModel_longKind l D tc tb z0 x0) (va_cwS 1 hts (goodS a_827 a_828 a_10 a_829) rfl rfl rfl hs_M_longKind ⟨Nat.le_of_ble_eq_true rfl, Nat.le_of_ble_eq_true rfl⟩) (hP.sub [] rfl) hK (hB.kept hS hZ) rfl hl.1 rfl (Nat.le_of_ble_eq_true rfl) d_M_stretch_243 ⟨Nat.zero_le _, Nat.zero_le _⟩ ?_
                        refine roVi (As := [.int (mF_StepMachineModel_longKind x0)]) (rest := []) ⟨hx, hb, hml, hown, hts⟩ (mc_StepMachineModel_put l D tc tb z0 b_x b_row b_part b_mem b_mrk b_sf b_ss b_sr b_h b_r b_in b_out b_k m_on m_hc m_pc m_giv m_tak m_put m_st m_cu m_va m_sp m_un m_kc m_kn m_by m_kd m_tg m_ju (upd (upd (upd (upd m_part (1 : Int32).toNatClampNeg (m_part (0 : Int32).toNatClampNeg)) (1 : Int32).toNatClampNeg 0) (0 : Int32).toNatClampNeg 0) (3 : Int32).toNatClampNeg 0) (mF_StepMachineModel_longKind x0) (lk_rng _)) (cwV 1 hts (goodV a_830 a_831 a_934 a_10 a_832) rfl rfl rfl hv_M_put ⟨Nat.le_of_ble_eq_true rfl, Nat.le_of_ble_eq_true rfl⟩) (hP.sub [0, 1, 2] rfl) hK (hB.kept hS hZ) rfl rfl rfl hl.1 rfl (Nat.le_of_ble_eq_true rfl) d_M_stretch_246 ⟨Nat.zero_le _, Nat.zero_le _⟩ ?_
                        exact W.iret (v := (mF_StepMachineModel_put (upd (upd (upd (upd m_part (1 : Int32).toNatClampNeg (m_part (0 : Int32).toNatClampNeg)) (1 : Int32).toNatClampNeg 0) (0 : Int32).toNatClampNeg 0) (3 : Int32).toNatClampNeg 0) (mF_StepMachineModel_longKind x0))) hx hb hr (fun t ht hW => ⟨⟨_, (upd (upd (upd (upd m_part (1 : Int32).toNatClampNeg (m_part (0 : Int32).toNatClampNeg)) (1 : Int32).toNatClampNeg 0) (0 : Int32).toNatClampNeg 0) (3 : Int32).toNatClampNeg 0), rfl, by rw [mF_StepMachineModel_stretch, if_neg c_10, if_neg c_16, if_neg c_22, if_neg c_28, if_neg c_34, if_pos c_40, if_neg c_64, if_neg c_70, if_neg c_76, if_neg c_82, if_pos c_118], by rw [ht]; exact hP, va_K.moved hW.alike hK, hD⟩, hS.F ht⟩) hS.2.2 d_M_stretch_249
                      · skip
                        refine lv_iload_n hx hb d_M_stretch_121 rfl (lv_at hl 4 rfl) ?_
                        refine lv_bipush (v := 54) hx hb d_M_stretch_122 (by decide) ?_
                        refine lv_icmp_eq (tgt := 133) hx hb d_M_stretch_124 (by decide) (fun c_124 => ?_) (fun c_124 => ?_)
                        · skip
                          refine lv_aload_n hx hb d_M_stretch_133 rfl (lv_at hl 3 rfl) ?_
                          refine va_get (D := D) (ci := 9) (v := .ref b_part) (C := "StepMachineModel") (T := TX9) (N := 29) hx hb hts inU_9 hown hK hP 0 rfl rfl 1 (by decide) (hts _ a_634) (fun _ h9 => h9) rfl d_M_stretch_134 ?_
                          refine lv_iconst (v := 1) hx hb d_M_stretch_137 (by decide) ?_
                          refine lv_iconst (v := 0) hx hb d_M_stretch_138 (by decide) ?_
                          refine va_iast hx hb hK hP hD hS 2 0 rfl rfl (vp_in_nI (n := 1) (N := 4) (by decide) (by decide)) d_M_stretch_139 (fun H locs hP hD hS => ?_)
                          have hP : va_P D vwCl [(b_x, .inr (9, [.ref b_row, .ref b_part, .ref b_mem, .ref b_mrk, .ref b_sf, .ref b_ss, .ref b_sr, .int m_on, .ref b_h, .int m_hc, .ref b_r, .int m_pc, .ref b_in, .int m_giv, .int m_tak, .ref b_out, .int m_put, .int m_st, .int m_cu, .int m_va, .int m_sp, .int m_un, .ref b_k, .int m_kc, .int m_kn, .int m_by, .int m_kd, .int m_tg, .int m_ju])), (b_row, .inl (tc 0, 2400, .inl rowT)), (b_part, .inl (tc 0, 4, .inl (upd (upd m_part (1 : Int32).toNatClampNeg (m_part (0 : Int32).toNatClampNeg)) (1 : Int32).toNatClampNeg 0)))] H := hP
                          have hD : va_D A [(b_x, .inr (9, [.ref b_row, .ref b_part, .ref b_mem, .ref b_mrk, .ref b_sf, .ref b_ss, .ref b_sr, .int m_on, .ref b_h, .int m_hc, .ref b_r, .int m_pc, .ref b_in, .int m_giv, .int m_tak, .ref b_out, .int m_put, .int m_st, .int m_cu, .int m_va, .int m_sp, .int m_un, .ref b_k, .int m_kc, .int m_kn, .int m_by, .int m_kd, .int m_tg, .int m_ju])), (b_row, .inl (tc 0, 2400, .inl rowT)), (b_part, .inl (tc 0, 4, .inl (upd (upd m_part (1 : Int32).toNatClampNeg (m_part (0 : Int32).toNatClampNeg)) (1 : Int32).toNatClampNeg 0)))] := hD
                          refine lv_iload_n hx hb d_M_stretch_140 rfl (lv_at hl 4 rfl) ?_
                          refine lv_bipush (v := 51) hx hb d_M_stretch_141 (by decide) ?_
                          refine lv_icmp_eq (tgt := 158) hx hb d_M_stretch_143 (by decide) (fun c_143 => absurd c_143 c_118) (fun c_143 => ?_)
                          refine lv_iload_n hx hb d_M_stretch_146 rfl (lv_at hl 4 rfl) ?_
                          refine lv_bipush (v := 64) hx hb d_M_stretch_147 (by decide) ?_
                          refine lv_icmp_eq (tgt := 158) hx hb d_M_stretch_149 (by decide) (fun c_149 => absurd c_149 (by rw [c_124]; decide)) (fun c_149 => ?_)
                          refine lv_iload_n hx hb d_M_stretch_152 rfl (lv_at hl 4 rfl) ?_
                          refine lv_bipush (v := 69) hx hb d_M_stretch_153 (by decide) ?_
                          refine lv_icmp_ne (tgt := 165) hx hb d_M_stretch_155 (by decide) (fun c_155 => ?_) (fun c_155 => absurd c_155 (by rw [c_124]; decide))
                          refine lv_iload_n hx hb d_M_stretch_165 rfl (lv_at hl 4 rfl) ?_
                          refine lv_bipush (v := 53) hx hb d_M_stretch_166 (by decide) ?_
                          refine lv_icmp_eq (tgt := 177) hx hb d_M_stretch_168 (by decide) (fun c_168 => absurd c_168 (by rw [c_124]; decide)) (fun c_168 => ?_)
                          refine lv_iload_n hx hb d_M_stretch_171 rfl (lv_at hl 4 rfl) ?_
                          refine lv_bipush (v := 72) hx hb d_M_stretch_172 (by decide) ?_
                          refine lv_icmp_ne (tgt := 184) hx hb d_M_stretch_174 (by decide) (fun c_174 => ?_) (fun c_174 => absurd c_174 (by rw [c_124]; decide))
                          refine lv_iload_n hx hb d_M_stretch_184 rfl (lv_at hl 4 rfl) ?_
                          refine lv_bipush (v := 55) hx hb d_M_stretch_185 (by decide) ?_
                          refine lv_icmp_ne (tgt := 197) hx hb d_M_stretch_187 (by decide) (fun c_187 => ?_) (fun c_187 => absurd c_187 c_70)
                          refine lv_iload_n hx hb d_M_stretch_197 rfl (lv_at hl 4 rfl) ?_
                          refine lv_bipush (v := 65) hx hb d_M_stretch_198 (by decide) ?_
                          refine lv_icmp_eq (tgt := 209) hx hb d_M_stretch_200 (by decide) (fun c_200 => absurd c_200 (by rw [c_124]; decide)) (fun c_200 => ?_)
                          refine lv_iload_n hx hb d_M_stretch_203 rfl (lv_at hl 4 rfl) ?_
                          refine lv_bipush (v := 66) hx hb d_M_stretch_204 (by decide) ?_
                          refine lv_icmp_ne (tgt := 216) hx hb d_M_stretch_206 (by decide) (fun c_206 => ?_) (fun c_206 => absurd c_206 (by rw [c_124]; decide))
                          refine lv_iload_n hx hb d_M_stretch_216 rfl (lv_at hl 4 rfl) ?_
                          refine lv_bipush (v := 51) hx hb d_M_stretch_217 (by decide) ?_
                          refine lv_icmp_eq (tgt := 234) hx hb d_M_stretch_219 (by decide) (fun c_219 => absurd c_219 c_118) (fun c_219 => ?_)
                          refine lv_iload_n hx hb d_M_stretch_222 rfl (lv_at hl 4 rfl) ?_
                          refine lv_bipush (v := 69) hx hb d_M_stretch_223 (by decide) ?_
                          refine lv_icmp_eq (tgt := 234) hx hb d_M_stretch_225 (by decide) (fun c_225 => absurd c_225 (by rw [c_124]; decide)) (fun c_225 => ?_)
                          refine lv_iload_n hx hb d_M_stretch_228 rfl (lv_at hl 4 rfl) ?_
                          refine lv_bipush (v := 72) hx hb d_M_stretch_229 (by decide) ?_
                          refine lv_icmp_ne (tgt := 241) hx hb d_M_stretch_231 (by decide) (fun c_231 => ?_) (fun c_231 => absurd c_231 (by rw [c_124]; decide))
                          refine lv_aload_n hx hb d_M_stretch_241 rfl (lv_at hl 3 rfl) ?_
                          refine lv_iload_n hx hb d_M_stretch_242 rfl (lv_at hl 4 rfl) ?_
                          refine roSi (As := [.int x0]) (rest := [.ref b_x]) ⟨hx, hb, hml, hown, hts⟩ (mc_StepMachineModel_longKind l D tc tb z0 x0) (va_cwS 1 hts (goodS a_827 a_828 a_10 a_829) rfl rfl rfl hs_M_longKind ⟨Nat.le_of_ble_eq_true rfl, Nat.le_of_ble_eq_true rfl⟩) (hP.sub [] rfl) hK (hB.kept hS hZ) rfl hl.1 rfl (Nat.le_of_ble_eq_true rfl) d_M_stretch_243 ⟨Nat.zero_le _, Nat.zero_le _⟩ ?_
                          refine roVi (As := [.int (mF_StepMachineModel_longKind x0)]) (rest := []) ⟨hx, hb, hml, hown, hts⟩ (mc_StepMachineModel_put l D tc tb z0 b_x b_row b_part b_mem b_mrk b_sf b_ss b_sr b_h b_r b_in b_out b_k m_on m_hc m_pc m_giv m_tak m_put m_st m_cu m_va m_sp m_un m_kc m_kn m_by m_kd m_tg m_ju (upd (upd m_part (1 : Int32).toNatClampNeg (m_part (0 : Int32).toNatClampNeg)) (1 : Int32).toNatClampNeg 0) (mF_StepMachineModel_longKind x0) (lk_rng _)) (cwV 1 hts (goodV a_830 a_831 a_934 a_10 a_832) rfl rfl rfl hv_M_put ⟨Nat.le_of_ble_eq_true rfl, Nat.le_of_ble_eq_true rfl⟩) (hP.sub [0, 1, 2] rfl) hK (hB.kept hS hZ) rfl rfl rfl hl.1 rfl (Nat.le_of_ble_eq_true rfl) d_M_stretch_246 ⟨Nat.zero_le _, Nat.zero_le _⟩ ?_
                          exact W.iret (v := (mF_StepMachineModel_put (upd (upd m_part (1 : Int32).toNatClampNeg (m_part (0 : Int32).toNatClampNeg)) (1 : Int32).toNatClampNeg 0) (mF_StepMachineModel_longKind x0))) hx hb hr (fun t ht hW => ⟨⟨_, (upd (upd m_part (1 : Int32).toNatClampNeg (m_part (0 : Int32).toNatClampNeg)) (1 : Int32).toNatClampNeg 0), rfl, by rw [mF_StepMachineModel_stretch, if_neg c_10, if_neg c_16, if_neg c_22, if_neg c_28, if_neg c_34, if_pos c_40, if_neg c_64, if_neg c_70, if_neg c_76, if_neg c_82, if_neg c_118, if_pos c_124], by rw [ht]; exact hP, va_K.moved hW.alike hK, hD⟩, hS.F ht⟩) hS.2.2 d_M_stretch_249
                        · skip
                          refine lv_iload_n hx hb d_M_stretch_127 rfl (lv_at hl 4 rfl) ?_
                          refine lv_bipush (v := 70) hx hb d_M_stretch_128 (by decide) ?_
                          refine lv_icmp_ne (tgt := 140) hx hb d_M_stretch_130 (by decide) (fun c_130 => ?_) (fun c_130 => ?_)
                          · skip
                            refine lv_iload_n hx hb d_M_stretch_140 rfl (lv_at hl 4 rfl) ?_
                            refine lv_bipush (v := 51) hx hb d_M_stretch_141 (by decide) ?_
                            refine lv_icmp_eq (tgt := 158) hx hb d_M_stretch_143 (by decide) (fun c_143 => absurd c_143 c_118) (fun c_143 => ?_)
                            refine lv_iload_n hx hb d_M_stretch_146 rfl (lv_at hl 4 rfl) ?_
                            refine lv_bipush (v := 64) hx hb d_M_stretch_147 (by decide) ?_
                            refine lv_icmp_eq (tgt := 158) hx hb d_M_stretch_149 (by decide) (fun c_149 => ?_) (fun c_149 => ?_)
                            · skip
                              refine lv_aload_n hx hb d_M_stretch_158 rfl (lv_at hl 3 rfl) ?_
                              refine va_get (D := D) (ci := 9) (v := .ref b_part) (C := "StepMachineModel") (T := TX9) (N := 29) hx hb hts inU_9 hown hK hP 0 rfl rfl 1 (by decide) (hts _ a_634) (fun _ h9 => h9) rfl d_M_stretch_159 ?_
                              refine lv_iconst (v := 0) hx hb d_M_stretch_162 (by decide) ?_
                              refine lv_iconst (v := 0) hx hb d_M_stretch_163 (by decide) ?_
                              refine va_iast hx hb hK hP hD hS 2 0 rfl rfl (vp_in_nI (n := 0) (N := 4) (by decide) (by decide)) d_M_stretch_164 (fun H locs hP hD hS => ?_)
                              have hP : va_P D vwCl [(b_x, .inr (9, [.ref b_row, .ref b_part, .ref b_mem, .ref b_mrk, .ref b_sf, .ref b_ss, .ref b_sr, .int m_on, .ref b_h, .int m_hc, .ref b_r, .int m_pc, .ref b_in, .int m_giv, .int m_tak, .ref b_out, .int m_put, .int m_st, .int m_cu, .int m_va, .int m_sp, .int m_un, .ref b_k, .int m_kc, .int m_kn, .int m_by, .int m_kd, .int m_tg, .int m_ju])), (b_row, .inl (tc 0, 2400, .inl rowT)), (b_part, .inl (tc 0, 4, .inl (upd (upd m_part (1 : Int32).toNatClampNeg (m_part (0 : Int32).toNatClampNeg)) (0 : Int32).toNatClampNeg 0)))] H := hP
                              have hD : va_D A [(b_x, .inr (9, [.ref b_row, .ref b_part, .ref b_mem, .ref b_mrk, .ref b_sf, .ref b_ss, .ref b_sr, .int m_on, .ref b_h, .int m_hc, .ref b_r, .int m_pc, .ref b_in, .int m_giv, .int m_tak, .ref b_out, .int m_put, .int m_st, .int m_cu, .int m_va, .int m_sp, .int m_un, .ref b_k, .int m_kc, .int m_kn, .int m_by, .int m_kd, .int m_tg, .int m_ju])), (b_row, .inl (tc 0, 2400, .inl rowT)), (b_part, .inl (tc 0, 4, .inl (upd (upd m_part (1 : Int32).toNatClampNeg (m_part (0 : Int32).toNatClampNeg)) (0 : Int32).toNatClampNeg 0)))] := hD
                              refine lv_iload_n hx hb d_M_stretch_165 rfl (lv_at hl 4 rfl) ?_
                              refine lv_bipush (v := 53) hx hb d_M_stretch_166 (by decide) ?_
                              refine lv_icmp_eq (tgt := 177) hx hb d_M_stretch_168 (by decide) (fun c_168 => absurd c_168 (by rw [c_149]; decide)) (fun c_168 => ?_)
                              refine lv_iload_n hx hb d_M_stretch_171 rfl (lv_at hl 4 rfl) ?_
                              refine lv_bipush (v := 72) hx hb d_M_stretch_172 (by decide) ?_
                              refine lv_icmp_ne (tgt := 184) hx hb d_M_stretch_174 (by decide) (fun c_174 => ?_) (fun c_174 => absurd c_174 (by rw [c_149]; decide))
                              refine lv_iload_n hx hb d_M_stretch_184 rfl (lv_at hl 4 rfl) ?_
                              refine lv_bipush (v := 55) hx hb d_M_stretch_185 (by decide) ?_
                              refine lv_icmp_ne (tgt := 197) hx hb d_M_stretch_187 (by decide) (fun c_187 => ?_) (fun c_187 => absurd c_187 c_70)
                              refine lv_iload_n hx hb d_M_stretch_197 rfl (lv_at hl 4 rfl) ?_
                              refine lv_bipush (v := 65) hx hb d_M_stretch_198 (by decide) ?_
                              refine lv_icmp_eq (tgt := 209) hx hb d_M_stretch_200 (by decide) (fun c_200 => absurd c_200 (by rw [c_149]; decide)) (fun c_200 => ?_)
                              refine lv_iload_n hx hb d_M_stretch_203 rfl (lv_at hl 4 rfl) ?_
                              refine lv_bipush (v := 66) hx hb d_M_stretch_204 (by decide) ?_
                              refine lv_icmp_ne (tgt := 216) hx hb d_M_stretch_206 (by decide) (fun c_206 => ?_) (fun c_206 => absurd c_206 (by rw [c_149]; decide))
                              refine lv_iload_n hx hb d_M_stretch_216 rfl (lv_at hl 4 rfl) ?_
                              refine lv_bipush (v := 51) hx hb d_M_stretch_217 (by decide) ?_
                              refine lv_icmp_eq (tgt := 234) hx hb d_M_stretch_219 (by decide) (fun c_219 => absurd c_219 c_118) (fun c_219 => ?_)
                              refine lv_iload_n hx hb d_M_stretch_222 rfl (lv_at hl 4 rfl) ?_
                              refine lv_bipush (v := 69) hx hb d_M_stretch_223 (by decide) ?_
                              refine lv_icmp_eq (tgt := 234) hx hb d_M_stretch_225 (by decide) (fun c_225 => absurd c_225 (by rw [c_149]; decide)) (fun c_225 => ?_)
                              refine lv_iload_n hx hb d_M_stretch_228 rfl (lv_at hl 4 rfl) ?_
                              refine lv_bipush (v := 72) hx hb d_M_stretch_229 (by decide) ?_
                              refine lv_icmp_ne (tgt := 241) hx hb d_M_stretch_231 (by decide) (fun c_231 => ?_) (fun c_231 => absurd c_231 (by rw [c_149]; decide))
                              refine lv_aload_n hx hb d_M_stretch_241 rfl (lv_at hl 3 rfl) ?_
                              refine lv_iload_n hx hb d_M_stretch_242 rfl (lv_at hl 4 rfl) ?_
                              refine roSi (As := [.int x0]) (rest := [.ref b_x]) ⟨hx, hb, hml, hown, hts⟩ (mc_StepMachineModel_longKind l D tc tb z0 x0) (va_cwS 1 hts (goodS a_827 a_828 a_10 a_829) rfl rfl rfl hs_M_longKind ⟨Nat.le_of_ble_eq_true rfl, Nat.le_of_ble_eq_true rfl⟩) (hP.sub [] rfl) hK (hB.kept hS hZ) rfl hl.1 rfl (Nat.le_of_ble_eq_true rfl) d_M_stretch_243 ⟨Nat.zero_le _, Nat.zero_le _⟩ ?_
                              refine roVi (As := [.int (mF_StepMachineModel_longKind x0)]) (rest := []) ⟨hx, hb, hml, hown, hts⟩ (mc_StepMachineModel_put l D tc tb z0 b_x b_row b_part b_mem b_mrk b_sf b_ss b_sr b_h b_r b_in b_out b_k m_on m_hc m_pc m_giv m_tak m_put m_st m_cu m_va m_sp m_un m_kc m_kn m_by m_kd m_tg m_ju (upd (upd m_part (1 : Int32).toNatClampNeg (m_part (0 : Int32).toNatClampNeg)) (0 : Int32).toNatClampNeg 0) (mF_StepMachineModel_longKind x0) (lk_rng _)) (cwV 1 hts (goodV a_830 a_831 a_934 a_10 a_832) rfl rfl rfl hv_M_put ⟨Nat.le_of_ble_eq_true rfl, Nat.le_of_ble_eq_true rfl⟩) (hP.sub [0, 1, 2] rfl) hK (hB.kept hS hZ) rfl rfl rfl hl.1 rfl (Nat.le_of_ble_eq_true rfl) d_M_stretch_246 ⟨Nat.zero_le _, Nat.zero_le _⟩ ?_
                              exact W.iret (v := (mF_StepMachineModel_put (upd (upd m_part (1 : Int32).toNatClampNeg (m_part (0 : Int32).toNatClampNeg)) (0 : Int32).toNatClampNeg 0) (mF_StepMachineModel_longKind x0))) hx hb hr (fun t ht hW => ⟨⟨_, (upd (upd m_part (1 : Int32).toNatClampNeg (m_part (0 : Int32).toNatClampNeg)) (0 : Int32).toNatClampNeg 0), rfl, by rw [mF_StepMachineModel_stretch, if_neg c_10, if_neg c_16, if_neg c_22, if_neg c_28, if_neg c_34, if_pos c_40, if_neg c_64, if_neg c_70, if_neg c_76, if_neg c_82, if_neg c_118, if_neg c_124, if_neg c_130, if_pos c_149], by rw [ht]; exact hP, va_K.moved hW.alike hK, hD⟩, hS.F ht⟩) hS.2.2 d_M_stretch_249
                            · skip
                              refine lv_iload_n hx hb d_M_stretch_152 rfl (lv_at hl 4 rfl) ?_
                              refine lv_bipush (v := 69) hx hb d_M_stretch_153 (by decide) ?_
                              refine lv_icmp_ne (tgt := 165) hx hb d_M_stretch_155 (by decide) (fun c_155 => ?_) (fun c_155 => ?_)
                              · skip
                                refine lv_iload_n hx hb d_M_stretch_165 rfl (lv_at hl 4 rfl) ?_
                                refine lv_bipush (v := 53) hx hb d_M_stretch_166 (by decide) ?_
                                refine lv_icmp_eq (tgt := 177) hx hb d_M_stretch_168 (by decide) (fun c_168 => ?_) (fun c_168 => ?_)
                                · skip
                                  refine lv_aload_n hx hb d_M_stretch_177 rfl (lv_at hl 3 rfl) ?_
                                  refine va_get (D := D) (ci := 9) (v := .ref b_part) (C := "StepMachineModel") (T := TX9) (N := 29) hx hb hts inU_9 hown hK hP 0 rfl rfl 1 (by decide) (hts _ a_634) (fun _ h9 => h9) rfl d_M_stretch_178 ?_
                                  refine lv_iconst (v := 0) hx hb d_M_stretch_181 (by decide) ?_
                                  refine lv_iconst (v := 1) hx hb d_M_stretch_182 (by decide) ?_
                                  refine va_iast hx hb hK hP hD hS 2 0 rfl rfl (vp_in_nI (n := 0) (N := 4) (by decide) (by decide)) d_M_stretch_183 (fun H locs hP hD hS => ?_)
                                  have hP : va_P D vwCl [(b_x, .inr (9, [.ref b_row, .ref b_part, .ref b_mem, .ref b_mrk, .ref b_sf, .ref b_ss, .ref b_sr, .int m_on, .ref b_h, .int m_hc, .ref b_r, .int m_pc, .ref b_in, .int m_giv, .int m_tak, .ref b_out, .int m_put, .int m_st, .int m_cu, .int m_va, .int m_sp, .int m_un, .ref b_k, .int m_kc, .int m_kn, .int m_by, .int m_kd, .int m_tg, .int m_ju])), (b_row, .inl (tc 0, 2400, .inl rowT)), (b_part, .inl (tc 0, 4, .inl (upd (upd m_part (1 : Int32).toNatClampNeg (m_part (0 : Int32).toNatClampNeg)) (0 : Int32).toNatClampNeg 1)))] H := hP
                                  have hD : va_D A [(b_x, .inr (9, [.ref b_row, .ref b_part, .ref b_mem, .ref b_mrk, .ref b_sf, .ref b_ss, .ref b_sr, .int m_on, .ref b_h, .int m_hc, .ref b_r, .int m_pc, .ref b_in, .int m_giv, .int m_tak, .ref b_out, .int m_put, .int m_st, .int m_cu, .int m_va, .int m_sp, .int m_un, .ref b_k, .int m_kc, .int m_kn, .int m_by, .int m_kd, .int m_tg, .int m_ju])), (b_row, .inl (tc 0, 2400, .inl rowT)), (b_part, .inl (tc 0, 4, .inl (upd (upd m_part (1 : Int32).toNatClampNeg (m_part (0 : Int32).toNatClampNeg)) (0 : Int32).toNatClampNeg 1)))] := hD
                                  refine lv_iload_n hx hb d_M_stretch_184 rfl (lv_at hl 4 rfl) ?_
                                  refine lv_bipush (v := 55) hx hb d_M_stretch_185 (by decide) ?_
                                  refine lv_icmp_ne (tgt := 197) hx hb d_M_stretch_187 (by decide) (fun c_187 => ?_) (fun c_187 => absurd c_187 c_70)
                                  refine lv_iload_n hx hb d_M_stretch_197 rfl (lv_at hl 4 rfl) ?_
                                  refine lv_bipush (v := 65) hx hb d_M_stretch_198 (by decide) ?_
                                  refine lv_icmp_eq (tgt := 209) hx hb d_M_stretch_200 (by decide) (fun c_200 => absurd c_200 (by rw [c_168]; decide)) (fun c_200 => ?_)
                                  refine lv_iload_n hx hb d_M_stretch_203 rfl (lv_at hl 4 rfl) ?_
                                  refine lv_bipush (v := 66) hx hb d_M_stretch_204 (by decide) ?_
                                  refine lv_icmp_ne (tgt := 216) hx hb d_M_stretch_206 (by decide) (fun c_206 => ?_) (fun c_206 => absurd c_206 (by rw [c_168]; decide))
                                  refine lv_iload_n hx hb d_M_stretch_216 rfl (lv_at hl 4 rfl) ?_
                                  refine lv_bipush (v := 51) hx hb d_M_stretch_217 (by decide) ?_
                                  refine lv_icmp_eq (tgt := 234) hx hb d_M_stretch_219 (by decide) (fun c_219 => absurd c_219 c_118) (fun c_219 => ?_)
                                  refine lv_iload_n hx hb d_M_stretch_222 rfl (lv_at hl 4 rfl) ?_
                                  refine lv_bipush (v := 69) hx hb d_M_stretch_223 (by decide) ?_
                                  refine lv_icmp_eq (tgt := 234) hx hb d_M_stretch_225 (by decide) (fun c_225 => absurd c_225 c_155) (fun c_225 => ?_)
                                  refine lv_iload_n hx hb d_M_stretch_228 rfl (lv_at hl 4 rfl) ?_
                                  refine lv_bipush (v := 72) hx hb d_M_stretch_229 (by decide) ?_
                                  refine lv_icmp_ne (tgt := 241) hx hb d_M_stretch_231 (by decide) (fun c_231 => ?_) (fun c_231 => absurd c_231 (by rw [c_168]; decide))
                                  refine lv_aload_n hx hb d_M_stretch_241 rfl (lv_at hl 3 rfl) ?_
                                  refine lv_iload_n hx hb d_M_stretch_242 rfl (lv_at hl 4 rfl) ?_
                                  refine roSi (As := [.int x0]) (rest := [.ref b_x]) ⟨hx, hb, hml, hown, hts⟩ (mc_StepMachineModel_longKind l D tc tb z0 x0) (va_cwS 1 hts (goodS a_827 a_828 a_10 a_829) rfl rfl rfl hs_M_longKind ⟨Nat.le_of_ble_eq_true rfl, Nat.le_of_ble_eq_true rfl⟩) (hP.sub [] rfl) hK (hB.kept hS hZ) rfl hl.1 rfl (Nat.le_of_ble_eq_true rfl) d_M_stretch_243 ⟨Nat.zero_le _, Nat.zero_le _⟩ ?_
                                  refine roVi (As := [.int (mF_StepMachineModel_longKind x0)]) (rest := []) ⟨hx, hb, hml, hown, hts⟩ (mc_StepMachineModel_put l D tc tb z0 b_x b_row b_part b_mem b_mrk b_sf b_ss b_sr b_h b_r b_in b_out b_k m_on m_hc m_pc m_giv m_tak m_put m_st m_cu m_va m_sp m_un m_kc m_kn m_by m_kd m_tg m_ju (upd (upd m_part (1 : Int32).toNatClampNeg (m_part (0 : Int32).toNatClampNeg)) (0 : Int32).toNatClampNeg 1) (mF_StepMachineModel_longKind x0) (lk_rng _)) (cwV 1 hts (goodV a_830 a_831 a_934 a_10 a_832) rfl rfl rfl hv_M_put ⟨Nat.le_of_ble_eq_true rfl, Nat.le_of_ble_eq_true rfl⟩) (hP.sub [0, 1, 2] rfl) hK (hB.kept hS hZ) rfl rfl rfl hl.1 rfl (Nat.le_of_ble_eq_true rfl) d_M_stretch_246 ⟨Nat.zero_le _, Nat.zero_le _⟩ ?_
                                  exact W.iret (v := (mF_StepMachineModel_put (upd (upd m_part (1 : Int32).toNatClampNeg (m_part (0 : Int32).toNatClampNeg)) (0 : Int32).toNatClampNeg 1) (mF_StepMachineModel_longKind x0))) hx hb hr (fun t ht hW => ⟨⟨_, (upd (upd m_part (1 : Int32).toNatClampNeg (m_part (0 : Int32).toNatClampNeg)) (0 : Int32).toNatClampNeg 1), rfl, by rw [mF_StepMachineModel_stretch, if_neg c_10, if_neg c_16, if_neg c_22, if_neg c_28, if_neg c_34, if_pos c_40, if_neg c_64, if_neg c_70, if_neg c_76, if_neg c_82, if_neg c_118, if_neg c_124, if_neg c_130, if_neg c_149, if_neg c_155, if_pos c_168], by rw [ht]; exact hP, va_K.moved hW.alike hK, hD⟩, hS.F ht⟩) hS.2.2 d_M_stretch_249
                                · skip
                                  refine lv_iload_n hx hb d_M_stretch_171 rfl (lv_at hl 4 rfl) ?_
                                  refine lv_bipush (v := 72) hx hb d_M_stretch_172 (by decide) ?_
                                  refine lv_icmp_ne (tgt := 184) hx hb d_M_stretch_174 (by decide) (fun c_174 => ?_) (fun c_174 => ?_)
                                  · skip
                                    refine lv_iload_n hx hb d_M_stretch_184 rfl (lv_at hl 4 rfl) ?_
                                    refine lv_bipush (v := 55) hx hb d_M_stretch_185 (by decide) ?_
                                    refine lv_icmp_ne (tgt := 197) hx hb d_M_stretch_187 (by decide) (fun c_187 => ?_) (fun c_187 => absurd c_187 c_70)
                                    refine lv_iload_n hx hb d_M_stretch_197 rfl (lv_at hl 4 rfl) ?_
                                    refine lv_bipush (v := 65) hx hb d_M_stretch_198 (by decide) ?_
                                    refine lv_icmp_eq (tgt := 209) hx hb d_M_stretch_200 (by decide) (fun c_200 => ?_) (fun c_200 => ?_)
                                    · skip
                                      refine lv_aload_n hx hb d_M_stretch_209 rfl (lv_at hl 3 rfl) ?_
                                      refine va_get (D := D) (ci := 9) (v := .ref b_part) (C := "StepMachineModel") (T := TX9) (N := 29) hx hb hts inU_9 hown hK hP 0 rfl rfl 1 (by decide) (hts _ a_634) (fun _ h9 => h9) rfl d_M_stretch_210 ?_
                                      refine lv_iconst (v := 2) hx hb d_M_stretch_213 (by decide) ?_
                                      refine lv_iconst (v := 0) hx hb d_M_stretch_214 (by decide) ?_
                                      refine va_iast hx hb hK hP hD hS 2 0 rfl rfl (vp_in_nI (n := 2) (N := 4) (by decide) (by decide)) d_M_stretch_215 (fun H locs hP hD hS => ?_)
                                      have hP : va_P D vwCl [(b_x, .inr (9, [.ref b_row, .ref b_part, .ref b_mem, .ref b_mrk, .ref b_sf, .ref b_ss, .ref b_sr, .int m_on, .ref b_h, .int m_hc, .ref b_r, .int m_pc, .ref b_in, .int m_giv, .int m_tak, .ref b_out, .int m_put, .int m_st, .int m_cu, .int m_va, .int m_sp, .int m_un, .ref b_k, .int m_kc, .int m_kn, .int m_by, .int m_kd, .int m_tg, .int m_ju])), (b_row, .inl (tc 0, 2400, .inl rowT)), (b_part, .inl (tc 0, 4, .inl (upd (upd m_part (1 : Int32).toNatClampNeg (m_part (0 : Int32).toNatClampNeg)) (2 : Int32).toNatClampNeg 0)))] H := hP
                                      have hD : va_D A [(b_x, .inr (9, [.ref b_row, .ref b_part, .ref b_mem, .ref b_mrk, .ref b_sf, .ref b_ss, .ref b_sr, .int m_on, .ref b_h, .int m_hc, .ref b_r, .int m_pc, .ref b_in, .int m_giv, .int m_tak, .ref b_out, .int m_put, .int m_st, .int m_cu, .int m_va, .int m_sp, .int m_un, .ref b_k, .int m_kc, .int m_kn, .int m_by, .int m_kd, .int m_tg, .int m_ju])), (b_row, .inl (tc 0, 2400, .inl rowT)), (b_part, .inl (tc 0, 4, .inl (upd (upd m_part (1 : Int32).toNatClampNeg (m_part (0 : Int32).toNatClampNeg)) (2 : Int32).toNatClampNeg 0)))] := hD
                                      refine lv_iload_n hx hb d_M_stretch_216 rfl (lv_at hl 4 rfl) ?_
                                      refine lv_bipush (v := 51) hx hb d_M_stretch_217 (by decide) ?_
                                      refine lv_icmp_eq (tgt := 234) hx hb d_M_stretch_219 (by decide) (fun c_219 => absurd c_219 c_118) (fun c_219 => ?_)
                                      refine lv_iload_n hx hb d_M_stretch_222 rfl (lv_at hl 4 rfl) ?_
                                      refine lv_bipush (v := 69) hx hb d_M_stretch_223 (by decide) ?_
                                      refine lv_icmp_eq (tgt := 234) hx hb d_M_stretch_225 (by decide) (fun c_225 => absurd c_225 c_155) (fun c_225 => ?_)
                                      refine lv_iload_n hx hb d_M_stretch_228 rfl (lv_at hl 4 rfl) ?_
                                      refine lv_bipush (v := 72) hx hb d_M_stretch_229 (by decide) ?_
                                      refine lv_icmp_ne (tgt := 241) hx hb d_M_stretch_231 (by decide) (fun c_231 => ?_) (fun c_231 => absurd c_231 c_174)
                                      refine lv_aload_n hx hb d_M_stretch_241 rfl (lv_at hl 3 rfl) ?_
                                      refine lv_iload_n hx hb d_M_stretch_242 rfl (lv_at hl 4 rfl) ?_
                                      refine roSi (As := [.int x0]) (rest := [.ref b_x]) ⟨hx, hb, hml, hown, hts⟩ (mc_StepMachineModel_longKind l D tc tb z0 x0) (va_cwS 1 hts (goodS a_827 a_828 a_10 a_829) rfl rfl rfl hs_M_longKind ⟨Nat.le_of_ble_eq_true rfl, Nat.le_of_ble_eq_true rfl⟩) (hP.sub [] rfl) hK (hB.kept hS hZ) rfl hl.1 rfl (Nat.le_of_ble_eq_true rfl) d_M_stretch_243 ⟨Nat.zero_le _, Nat.zero_le _⟩ ?_
                                      refine roVi (As := [.int (mF_StepMachineModel_longKind x0)]) (rest := []) ⟨hx, hb, hml, hown, hts⟩ (mc_StepMachineModel_put l D tc tb z0 b_x b_row b_part b_mem b_mrk b_sf b_ss b_sr b_h b_r b_in b_out b_k m_on m_hc m_pc m_giv m_tak m_put m_st m_cu m_va m_sp m_un m_kc m_kn m_by m_kd m_tg m_ju (upd (upd m_part (1 : Int32).toNatClampNeg (m_part (0 : Int32).toNatClampNeg)) (2 : Int32).toNatClampNeg 0) (mF_StepMachineModel_longKind x0) (lk_rng _)) (cwV 1 hts (goodV a_830 a_831 a_934 a_10 a_832) rfl rfl rfl hv_M_put ⟨Nat.le_of_ble_eq_true rfl, Nat.le_of_ble_eq_true rfl⟩) (hP.sub [0, 1, 2] rfl) hK (hB.kept hS hZ) rfl rfl rfl hl.1 rfl (Nat.le_of_ble_eq_true rfl) d_M_stretch_246 ⟨Nat.zero_le _, Nat.zero_le _⟩ ?_
                                      exact W.iret (v := (mF_StepMachineModel_put (upd (upd m_part (1 : Int32).toNatClampNeg (m_part (0 : Int32).toNatClampNeg)) (2 : Int32).toNatClampNeg 0) (mF_StepMachineModel_longKind x0))) hx hb hr (fun t ht hW => ⟨⟨_, (upd (upd m_part (1 : Int32).toNatClampNeg (m_part (0 : Int32).toNatClampNeg)) (2 : Int32).toNatClampNeg 0), rfl, by rw [mF_StepMachineModel_stretch, if_neg c_10, if_neg c_16, if_neg c_22, if_neg c_28, if_neg c_34, if_pos c_40, if_neg c_64, if_neg c_70, if_neg c_76, if_neg c_82, if_neg c_118, if_neg c_124, if_neg c_130, if_neg c_149, if_neg c_155, if_neg c_168, if_neg c_174, if_pos c_200], by rw [ht]; exact hP, va_K.moved hW.alike hK, hD⟩, hS.F ht⟩) hS.2.2 d_M_stretch_249
                                    · skip
                                      refine lv_iload_n hx hb d_M_stretch_203 rfl (lv_at hl 4 rfl) ?_
                                      refine lv_bipush (v := 66) hx hb d_M_stretch_204 (by decide) ?_
                                      refine lv_icmp_ne (tgt := 216) hx hb d_M_stretch_206 (by decide) (fun c_206 => ?_) (fun c_206 => ?_)
                                      · skip
                                        refine lv_iload_n hx hb d_M_stretch_216 rfl (lv_at hl 4 rfl) ?_
                                        refine lv_bipush (v := 51) hx hb d_M_stretch_217 (by decide) ?_
                                        refine lv_icmp_eq (tgt := 234) hx hb d_M_stretch_219 (by decide) (fun c_219 => absurd c_219 c_118) (fun c_219 => ?_)
                                        refine lv_iload_n hx hb d_M_stretch_222 rfl (lv_at hl 4 rfl) ?_
                                        refine lv_bipush (v := 69) hx hb d_M_stretch_223 (by decide) ?_
                                        refine lv_icmp_eq (tgt := 234) hx hb d_M_stretch_225 (by decide) (fun c_225 => absurd c_225 c_155) (fun c_225 => ?_)
                                        refine lv_iload_n hx hb d_M_stretch_228 rfl (lv_at hl 4 rfl) ?_
                                        refine lv_bipush (v := 72) hx hb d_M_stretch_229 (by decide) ?_
                                        refine lv_icmp_ne (tgt := 241) hx hb d_M_stretch_231 (by decide) (fun c_231 => ?_) (fun c_231 => absurd c_231 c_174)
                                        refine lv_aload_n hx hb d_M_stretch_241 rfl (lv_at hl 3 rfl) ?_
                                        refine lv_iload_n hx hb d_M_stretch_242 rfl (lv_at hl 4 rfl) ?_
                                        refine roSi (As := [.int x0]) (rest := [.ref b_x]) ⟨hx, hb, hml, hown, hts⟩ (mc_StepMachineModel_longKind l D tc tb z0 x0) (va_cwS 1 hts (goodS a_827 a_828 a_10 a_829) rfl rfl rfl hs_M_longKind ⟨Nat.le_of_ble_eq_true rfl, Nat.le_of_ble_eq_true rfl⟩) (hP.sub [] rfl) hK (hB.kept hS hZ) rfl hl.1 rfl (Nat.le_of_ble_eq_true rfl) d_M_stretch_243 ⟨Nat.zero_le _, Nat.zero_le _⟩ ?_
                                        refine roVi (As := [.int (mF_StepMachineModel_longKind x0)]) (rest := []) ⟨hx, hb, hml, hown, hts⟩ (mc_StepMachineModel_put l D tc tb z0 b_x b_row b_part b_mem b_mrk b_sf b_ss b_sr b_h b_r b_in b_out b_k m_on m_hc m_pc m_giv m_tak m_put m_st m_cu m_va m_sp m_un m_kc m_kn m_by m_kd m_tg m_ju (upd m_part (1 : Int32).toNatClampNeg (m_part (0 : Int32).toNatClampNeg)) (mF_StepMachineModel_longKind x0) (lk_rng _)) (cwV 1 hts (goodV a_830 a_831 a_934 a_10 a_832) rfl rfl rfl hv_M_put ⟨Nat.le_of_ble_eq_true rfl, Nat.le_of_ble_eq_true rfl⟩) (hP.sub [0, 1, 2] rfl) hK (hB.kept hS hZ) rfl rfl rfl hl.1 rfl (Nat.le_of_ble_eq_true rfl) d_M_stretch_246 ⟨Nat.zero_le _, Nat.zero_le _⟩ ?_
                                        exact W.iret (v := (mF_StepMachineModel_put (upd m_part (1 : Int32).toNatClampNeg (m_part (0 : Int32).toNatClampNeg)) (mF_StepMachineModel_longKind x0))) hx hb hr (fun t ht hW => ⟨⟨_, (upd m_part (1 : Int32).toNatClampNeg (m_part (0 : Int32).toNatClampNeg)), rfl, by rw [mF_StepMachineModel_stretch, if_neg c_10, if_neg c_16, if_neg c_22, if_neg c_28, if_neg c_34, if_pos c_40, if_neg c_64, if_neg c_70, if_neg c_76, if_neg c_82, if_neg c_118, if_neg c_124, if_neg c_130, if_neg c_149, if_neg c_155, if_neg c_168, if_neg c_174, if_neg c_200, if_neg c_206], by rw [ht]; exact hP, va_K.moved hW.alike hK, hD⟩, hS.F ht⟩) hS.2.2 d_M_stretch_249
                                      · skip
                                        refine lv_aload_n hx hb d_M_stretch_209 rfl (lv_at hl 3 rfl) ?_
                                        refine va_get (D := D) (ci := 9) (v := .ref b_part) (C := "StepMachineModel") (T := TX9) (N := 29) hx hb hts inU_9 hown hK hP 0 rfl rfl 1 (by decide) (hts _ a_634) (fun _ h9 => h9) rfl d_M_stretch_210 ?_
                                        refine lv_iconst (v := 2) hx hb d_M_stretch_213 (by decide) ?_
                                        refine lv_iconst (v := 0) hx hb d_M_stretch_214 (by decide) ?_
                                        refine va_iast hx hb hK hP hD hS 2 0 rfl rfl (vp_in_nI (n := 2) (N := 4) (by decide) (by decide)) d_M_stretch_215 (fun H locs hP hD hS => ?_)
                                        have hP : va_P D vwCl [(b_x, .inr (9, [.ref b_row, .ref b_part, .ref b_mem, .ref b_mrk, .ref b_sf, .ref b_ss, .ref b_sr, .int m_on, .ref b_h, .int m_hc, .ref b_r, .int m_pc, .ref b_in, .int m_giv, .int m_tak, .ref b_out, .int m_put, .int m_st, .int m_cu, .int m_va, .int m_sp, .int m_un, .ref b_k, .int m_kc, .int m_kn, .int m_by, .int m_kd, .int m_tg, .int m_ju])), (b_row, .inl (tc 0, 2400, .inl rowT)), (b_part, .inl (tc 0, 4, .inl (upd (upd m_part (1 : Int32).toNatClampNeg (m_part (0 : Int32).toNatClampNeg)) (2 : Int32).toNatClampNeg 0)))] H := hP
                                        have hD : va_D A [(b_x, .inr (9, [.ref b_row, .ref b_part, .ref b_mem, .ref b_mrk, .ref b_sf, .ref b_ss, .ref b_sr, .int m_on, .ref b_h, .int m_hc, .ref b_r, .int m_pc, .ref b_in, .int m_giv, .int m_tak, .ref b_out, .int m_put, .int m_st, .int m_cu, .int m_va, .int m_sp, .int m_un, .ref b_k, .int m_kc, .int m_kn, .int m_by, .int m_kd, .int m_tg, .int m_ju])), (b_row, .inl (tc 0, 2400, .inl rowT)), (b_part, .inl (tc 0, 4, .inl (upd (upd m_part (1 : Int32).toNatClampNeg (m_part (0 : Int32).toNatClampNeg)) (2 : Int32).toNatClampNeg 0)))] := hD
                                        refine lv_iload_n hx hb d_M_stretch_216 rfl (lv_at hl 4 rfl) ?_
                                        refine lv_bipush (v := 51) hx hb d_M_stretch_217 (by decide) ?_
                                        refine lv_icmp_eq (tgt := 234) hx hb d_M_stretch_219 (by decide) (fun c_219 => absurd c_219 c_118) (fun c_219 => ?_)
                                        refine lv_iload_n hx hb d_M_stretch_222 rfl (lv_at hl 4 rfl) ?_
                                        refine lv_bipush (v := 69) hx hb d_M_stretch_223 (by decide) ?_
                                        refine lv_icmp_eq (tgt := 234) hx hb d_M_stretch_225 (by decide) (fun c_225 => absurd c_225 c_155) (fun c_225 => ?_)
                                        refine lv_iload_n hx hb d_M_stretch_228 rfl (lv_at hl 4 rfl) ?_
                                        refine lv_bipush (v := 72) hx hb d_M_stretch_229 (by decide) ?_
                                        refine lv_icmp_ne (tgt := 241) hx hb d_M_stretch_231 (by decide) (fun c_231 => ?_) (fun c_231 => absurd c_231 c_174)
                                        refine lv_aload_n hx hb d_M_stretch_241 rfl (lv_at hl 3 rfl) ?_
                                        refine lv_iload_n hx hb d_M_stretch_242 rfl (lv_at hl 4 rfl) ?_
                                        refine roSi (As := [.int x0]) (rest := [.ref b_x]) ⟨hx, hb, hml, hown, hts⟩ (mc_StepMachineModel_longKind l D tc tb z0 x0) (va_cwS 1 hts (goodS a_827 a_828 a_10 a_829) rfl rfl rfl hs_M_longKind ⟨Nat.le_of_ble_eq_true rfl, Nat.le_of_ble_eq_true rfl⟩) (hP.sub [] rfl) hK (hB.kept hS hZ) rfl hl.1 rfl (Nat.le_of_ble_eq_true rfl) d_M_stretch_243 ⟨Nat.zero_le _, Nat.zero_le _⟩ ?_
                                        refine roVi (As := [.int (mF_StepMachineModel_longKind x0)]) (rest := []) ⟨hx, hb, hml, hown, hts⟩ (mc_StepMachineModel_put l D tc tb z0 b_x b_row b_part b_mem b_mrk b_sf b_ss b_sr b_h b_r b_in b_out b_k m_on m_hc m_pc m_giv m_tak m_put m_st m_cu m_va m_sp m_un m_kc m_kn m_by m_kd m_tg m_ju (upd (upd m_part (1 : Int32).toNatClampNeg (m_part (0 : Int32).toNatClampNeg)) (2 : Int32).toNatClampNeg 0) (mF_StepMachineModel_longKind x0) (lk_rng _)) (cwV 1 hts (goodV a_830 a_831 a_934 a_10 a_832) rfl rfl rfl hv_M_put ⟨Nat.le_of_ble_eq_true rfl, Nat.le_of_ble_eq_true rfl⟩) (hP.sub [0, 1, 2] rfl) hK (hB.kept hS hZ) rfl rfl rfl hl.1 rfl (Nat.le_of_ble_eq_true rfl) d_M_stretch_246 ⟨Nat.zero_le _, Nat.zero_le _⟩ ?_
                                        exact W.iret (v := (mF_StepMachineModel_put (upd (upd m_part (1 : Int32).toNatClampNeg (m_part (0 : Int32).toNatClampNeg)) (2 : Int32).toNatClampNeg 0) (mF_StepMachineModel_longKind x0))) hx hb hr (fun t ht hW => ⟨⟨_, (upd (upd m_part (1 : Int32).toNatClampNeg (m_part (0 : Int32).toNatClampNeg)) (2 : Int32).toNatClampNeg 0), rfl, by rw [mF_StepMachineModel_stretch, if_neg c_10, if_neg c_16, if_neg c_22, if_neg c_28, if_neg c_34, if_pos c_40, if_neg c_64, if_neg c_70, if_neg c_76, if_neg c_82, if_neg c_118, if_neg c_124, if_neg c_130, if_neg c_149, if_neg c_155, if_neg c_168, if_neg c_174, if_neg c_200, if_pos c_206], by rw [ht]; exact hP, va_K.moved hW.alike hK, hD⟩, hS.F ht⟩) hS.2.2 d_M_stretch_249
                                  · skip
                                    refine lv_aload_n hx hb d_M_stretch_177 rfl (lv_at hl 3 rfl) ?_
                                    refine va_get (D := D) (ci := 9) (v := .ref b_part) (C := "StepMachineModel") (T := TX9) (N := 29) hx hb hts inU_9 hown hK hP 0 rfl rfl 1 (by decide) (hts _ a_634) (fun _ h9 => h9) rfl d_M_stretch_178 ?_
                                    refine lv_iconst (v := 0) hx hb d_M_stretch_181 (by decide) ?_
                                    refine lv_iconst (v := 1) hx hb d_M_stretch_182 (by decide) ?_
                                    refine va_iast hx hb hK hP hD hS 2 0 rfl rfl (vp_in_nI (n := 0) (N := 4) (by decide) (by decide)) d_M_stretch_183 (fun H locs hP hD hS => ?_)
                                    have hP : va_P D vwCl [(b_x, .inr (9, [.ref b_row, .ref b_part, .ref b_mem, .ref b_mrk, .ref b_sf, .ref b_ss, .ref b_sr, .int m_on, .ref b_h, .int m_hc, .ref b_r, .int m_pc, .ref b_in, .int m_giv, .int m_tak, .ref b_out, .int m_put, .int m_st, .int m_cu, .int m_va, .int m_sp, .int m_un, .ref b_k, .int m_kc, .int m_kn, .int m_by, .int m_kd, .int m_tg, .int m_ju])), (b_row, .inl (tc 0, 2400, .inl rowT)), (b_part, .inl (tc 0, 4, .inl (upd (upd m_part (1 : Int32).toNatClampNeg (m_part (0 : Int32).toNatClampNeg)) (0 : Int32).toNatClampNeg 1)))] H := hP
                                    have hD : va_D A [(b_x, .inr (9, [.ref b_row, .ref b_part, .ref b_mem, .ref b_mrk, .ref b_sf, .ref b_ss, .ref b_sr, .int m_on, .ref b_h, .int m_hc, .ref b_r, .int m_pc, .ref b_in, .int m_giv, .int m_tak, .ref b_out, .int m_put, .int m_st, .int m_cu, .int m_va, .int m_sp, .int m_un, .ref b_k, .int m_kc, .int m_kn, .int m_by, .int m_kd, .int m_tg, .int m_ju])), (b_row, .inl (tc 0, 2400, .inl rowT)), (b_part, .inl (tc 0, 4, .inl (upd (upd m_part (1 : Int32).toNatClampNeg (m_part (0 : Int32).toNatClampNeg)) (0 : Int32).toNatClampNeg 1)))] := hD
                                    refine lv_iload_n hx hb d_M_stretch_184 rfl (lv_at hl 4 rfl) ?_
                                    refine lv_bipush (v := 55) hx hb d_M_stretch_185 (by decide) ?_
                                    refine lv_icmp_ne (tgt := 197) hx hb d_M_stretch_187 (by decide) (fun c_187 => ?_) (fun c_187 => absurd c_187 c_70)
                                    refine lv_iload_n hx hb d_M_stretch_197 rfl (lv_at hl 4 rfl) ?_
                                    refine lv_bipush (v := 65) hx hb d_M_stretch_198 (by decide) ?_
                                    refine lv_icmp_eq (tgt := 209) hx hb d_M_stretch_200 (by decide) (fun c_200 => absurd c_200 (by rw [c_174]; decide)) (fun c_200 => ?_)
                                    refine lv_iload_n hx hb d_M_stretch_203 rfl (lv_at hl 4 rfl) ?_
                                    refine lv_bipush (v := 66) hx hb d_M_stretch_204 (by decide) ?_
                                    refine lv_icmp_ne (tgt := 216) hx hb d_M_stretch_206 (by decide) (fun c_206 => ?_) (fun c_206 => absurd c_206 (by rw [c_174]; decide))
                                    refine lv_iload_n hx hb d_M_stretch_216 rfl (lv_at hl 4 rfl) ?_
                                    refine lv_bipush (v := 51) hx hb d_M_stretch_217 (by decide) ?_
                                    refine lv_icmp_eq (tgt := 234) hx hb d_M_stretch_219 (by decide) (fun c_219 => absurd c_219 c_118) (fun c_219 => ?_)
                                    refine lv_iload_n hx hb d_M_stretch_222 rfl (lv_at hl 4 rfl) ?_
                                    refine lv_bipush (v := 69) hx hb d_M_stretch_223 (by decide) ?_
                                    refine lv_icmp_eq (tgt := 234) hx hb d_M_stretch_225 (by decide) (fun c_225 => absurd c_225 c_155) (fun c_225 => ?_)
                                    refine lv_iload_n hx hb d_M_stretch_228 rfl (lv_at hl 4 rfl) ?_
                                    refine lv_bipush (v := 72) hx hb d_M_stretch_229 (by decide) ?_
                                    refine lv_icmp_ne (tgt := 241) hx hb d_M_stretch_231 (by decide) (fun c_231 => absurd c_174 c_231) (fun c_231 => ?_)
                                    refine lv_aload_n hx hb d_M_stretch_234 rfl (lv_at hl 3 rfl) ?_
                                    refine va_get (D := D) (ci := 9) (v := .ref b_part) (C := "StepMachineModel") (T := TX9) (N := 29) hx hb hts inU_9 hown hK hP 0 rfl rfl 1 (by decide) (hts _ a_634) (fun _ h9 => h9) rfl d_M_stretch_235 ?_
                                    refine lv_iconst (v := 3) hx hb d_M_stretch_238 (by decide) ?_
                                    refine lv_iconst (v := 0) hx hb d_M_stretch_239 (by decide) ?_
                                    refine va_iast hx hb hK hP hD hS 2 0 rfl rfl (vp_in_nI (n := 3) (N := 4) (by decide) (by decide)) d_M_stretch_240 (fun H locs hP hD hS => ?_)
                                    have hP : va_P D vwCl [(b_x, .inr (9, [.ref b_row, .ref b_part, .ref b_mem, .ref b_mrk, .ref b_sf, .ref b_ss, .ref b_sr, .int m_on, .ref b_h, .int m_hc, .ref b_r, .int m_pc, .ref b_in, .int m_giv, .int m_tak, .ref b_out, .int m_put, .int m_st, .int m_cu, .int m_va, .int m_sp, .int m_un, .ref b_k, .int m_kc, .int m_kn, .int m_by, .int m_kd, .int m_tg, .int m_ju])), (b_row, .inl (tc 0, 2400, .inl rowT)), (b_part, .inl (tc 0, 4, .inl (upd (upd (upd m_part (1 : Int32).toNatClampNeg (m_part (0 : Int32).toNatClampNeg)) (0 : Int32).toNatClampNeg 1) (3 : Int32).toNatClampNeg 0)))] H := hP
                                    have hD : va_D A [(b_x, .inr (9, [.ref b_row, .ref b_part, .ref b_mem, .ref b_mrk, .ref b_sf, .ref b_ss, .ref b_sr, .int m_on, .ref b_h, .int m_hc, .ref b_r, .int m_pc, .ref b_in, .int m_giv, .int m_tak, .ref b_out, .int m_put, .int m_st, .int m_cu, .int m_va, .int m_sp, .int m_un, .ref b_k, .int m_kc, .int m_kn, .int m_by, .int m_kd, .int m_tg, .int m_ju])), (b_row, .inl (tc 0, 2400, .inl rowT)), (b_part, .inl (tc 0, 4, .inl (upd (upd (upd m_part (1 : Int32).toNatClampNeg (m_part (0 : Int32).toNatClampNeg)) (0 : Int32).toNatClampNeg 1) (3 : Int32).toNatClampNeg 0)))] := hD
                                    refine lv_aload_n hx hb d_M_stretch_241 rfl (lv_at hl 3 rfl) ?_
                                    refine lv_iload_n hx hb d_M_stretch_242 rfl (lv_at hl 4 rfl) ?_
                                    refine roSi (As := [.int x0]) (rest := [.ref b_x]) ⟨hx, hb, hml, hown, hts⟩ (mc_StepMachineModel_longKind l D tc tb z0 x0) (va_cwS 1 hts (goodS a_827 a_828 a_10 a_829) rfl rfl rfl hs_M_longKind ⟨Nat.le_of_ble_eq_true rfl, Nat.le_of_ble_eq_true rfl⟩) (hP.sub [] rfl) hK (hB.kept hS hZ) rfl hl.1 rfl (Nat.le_of_ble_eq_true rfl) d_M_stretch_243 ⟨Nat.zero_le _, Nat.zero_le _⟩ ?_
                                    refine roVi (As := [.int (mF_StepMachineModel_longKind x0)]) (rest := []) ⟨hx, hb, hml, hown, hts⟩ (mc_StepMachineModel_put l D tc tb z0 b_x b_row b_part b_mem b_mrk b_sf b_ss b_sr b_h b_r b_in b_out b_k m_on m_hc m_pc m_giv m_tak m_put m_st m_cu m_va m_sp m_un m_kc m_kn m_by m_kd m_tg m_ju (upd (upd (upd m_part (1 : Int32).toNatClampNeg (m_part (0 : Int32).toNatClampNeg)) (0 : Int32).toNatClampNeg 1) (3 : Int32).toNatClampNeg 0) (mF_StepMachineModel_longKind x0) (lk_rng _)) (cwV 1 hts (goodV a_830 a_831 a_934 a_10 a_832) rfl rfl rfl hv_M_put ⟨Nat.le_of_ble_eq_true rfl, Nat.le_of_ble_eq_true rfl⟩) (hP.sub [0, 1, 2] rfl) hK (hB.kept hS hZ) rfl rfl rfl hl.1 rfl (Nat.le_of_ble_eq_true rfl) d_M_stretch_246 ⟨Nat.zero_le _, Nat.zero_le _⟩ ?_
                                    exact W.iret (v := (mF_StepMachineModel_put (upd (upd (upd m_part (1 : Int32).toNatClampNeg (m_part (0 : Int32).toNatClampNeg)) (0 : Int32).toNatClampNeg 1) (3 : Int32).toNatClampNeg 0) (mF_StepMachineModel_longKind x0))) hx hb hr (fun t ht hW => ⟨⟨_, (upd (upd (upd m_part (1 : Int32).toNatClampNeg (m_part (0 : Int32).toNatClampNeg)) (0 : Int32).toNatClampNeg 1) (3 : Int32).toNatClampNeg 0), rfl, by rw [mF_StepMachineModel_stretch, if_neg c_10, if_neg c_16, if_neg c_22, if_neg c_28, if_neg c_34, if_pos c_40, if_neg c_64, if_neg c_70, if_neg c_76, if_neg c_82, if_neg c_118, if_neg c_124, if_neg c_130, if_neg c_149, if_neg c_155, if_neg c_168, if_pos c_174], by rw [ht]; exact hP, va_K.moved hW.alike hK, hD⟩, hS.F ht⟩) hS.2.2 d_M_stretch_249
                              · skip
                                refine lv_aload_n hx hb d_M_stretch_158 rfl (lv_at hl 3 rfl) ?_
                                refine va_get (D := D) (ci := 9) (v := .ref b_part) (C := "StepMachineModel") (T := TX9) (N := 29) hx hb hts inU_9 hown hK hP 0 rfl rfl 1 (by decide) (hts _ a_634) (fun _ h9 => h9) rfl d_M_stretch_159 ?_
                                refine lv_iconst (v := 0) hx hb d_M_stretch_162 (by decide) ?_
                                refine lv_iconst (v := 0) hx hb d_M_stretch_163 (by decide) ?_
                                refine va_iast hx hb hK hP hD hS 2 0 rfl rfl (vp_in_nI (n := 0) (N := 4) (by decide) (by decide)) d_M_stretch_164 (fun H locs hP hD hS => ?_)
                                have hP : va_P D vwCl [(b_x, .inr (9, [.ref b_row, .ref b_part, .ref b_mem, .ref b_mrk, .ref b_sf, .ref b_ss, .ref b_sr, .int m_on, .ref b_h, .int m_hc, .ref b_r, .int m_pc, .ref b_in, .int m_giv, .int m_tak, .ref b_out, .int m_put, .int m_st, .int m_cu, .int m_va, .int m_sp, .int m_un, .ref b_k, .int m_kc, .int m_kn, .int m_by, .int m_kd, .int m_tg, .int m_ju])), (b_row, .inl (tc 0, 2400, .inl rowT)), (b_part, .inl (tc 0, 4, .inl (upd (upd m_part (1 : Int32).toNatClampNeg (m_part (0 : Int32).toNatClampNeg)) (0 : Int32).toNatClampNeg 0)))] H := hP
                                have hD : va_D A [(b_x, .inr (9, [.ref b_row, .ref b_part, .ref b_mem, .ref b_mrk, .ref b_sf, .ref b_ss, .ref b_sr, .int m_on, .ref b_h, .int m_hc, .ref b_r, .int m_pc, .ref b_in, .int m_giv, .int m_tak, .ref b_out, .int m_put, .int m_st, .int m_cu, .int m_va, .int m_sp, .int m_un, .ref b_k, .int m_kc, .int m_kn, .int m_by, .int m_kd, .int m_tg, .int m_ju])), (b_row, .inl (tc 0, 2400, .inl rowT)), (b_part, .inl (tc 0, 4, .inl (upd (upd m_part (1 : Int32).toNatClampNeg (m_part (0 : Int32).toNatClampNeg)) (0 : Int32).toNatClampNeg 0)))] := hD
                                refine lv_iload_n hx hb d_M_stretch_165 rfl (lv_at hl 4 rfl) ?_
                                refine lv_bipush (v := 53) hx hb d_M_stretch_166 (by decide) ?_
                                refine lv_icmp_eq (tgt := 177) hx hb d_M_stretch_168 (by decide) (fun c_168 => absurd c_168 (by rw [c_155]; decide)) (fun c_168 => ?_)
                                refine lv_iload_n hx hb d_M_stretch_171 rfl (lv_at hl 4 rfl) ?_
                                refine lv_bipush (v := 72) hx hb d_M_stretch_172 (by decide) ?_
                                refine lv_icmp_ne (tgt := 184) hx hb d_M_stretch_174 (by decide) (fun c_174 => ?_) (fun c_174 => absurd c_174 (by rw [c_155]; decide))
                                refine lv_iload_n hx hb d_M_stretch_184 rfl (lv_at hl 4 rfl) ?_
                                refine lv_bipush (v := 55) hx hb d_M_stretch_185 (by decide) ?_
                                refine lv_icmp_ne (tgt := 197) hx hb d_M_stretch_187 (by decide) (fun c_187 => ?_) (fun c_187 => absurd c_187 c_70)
                                refine lv_iload_n hx hb d_M_stretch_197 rfl (lv_at hl 4 rfl) ?_
                                refine lv_bipush (v := 65) hx hb d_M_stretch_198 (by decide) ?_
                                refine lv_icmp_eq (tgt := 209) hx hb d_M_stretch_200 (by decide) (fun c_200 => absurd c_200 (by rw [c_155]; decide)) (fun c_200 => ?_)
                                refine lv_iload_n hx hb d_M_stretch_203 rfl (lv_at hl 4 rfl) ?_
                                refine lv_bipush (v := 66) hx hb d_M_stretch_204 (by decide) ?_
                                refine lv_icmp_ne (tgt := 216) hx hb d_M_stretch_206 (by decide) (fun c_206 => ?_) (fun c_206 => absurd c_206 (by rw [c_155]; decide))
                                refine lv_iload_n hx hb d_M_stretch_216 rfl (lv_at hl 4 rfl) ?_
                                refine lv_bipush (v := 51) hx hb d_M_stretch_217 (by decide) ?_
                                refine lv_icmp_eq (tgt := 234) hx hb d_M_stretch_219 (by decide) (fun c_219 => absurd c_219 c_118) (fun c_219 => ?_)
                                refine lv_iload_n hx hb d_M_stretch_222 rfl (lv_at hl 4 rfl) ?_
                                refine lv_bipush (v := 69) hx hb d_M_stretch_223 (by decide) ?_
                                refine lv_icmp_eq (tgt := 234) hx hb d_M_stretch_225 (by decide) (fun c_225 => ?_) (fun c_225 => absurd c_155 c_225)
                                refine lv_aload_n hx hb d_M_stretch_234 rfl (lv_at hl 3 rfl) ?_
                                refine va_get (D := D) (ci := 9) (v := .ref b_part) (C := "StepMachineModel") (T := TX9) (N := 29) hx hb hts inU_9 hown hK hP 0 rfl rfl 1 (by decide) (hts _ a_634) (fun _ h9 => h9) rfl d_M_stretch_235 ?_
                                refine lv_iconst (v := 3) hx hb d_M_stretch_238 (by decide) ?_
                                refine lv_iconst (v := 0) hx hb d_M_stretch_239 (by decide) ?_
                                refine va_iast hx hb hK hP hD hS 2 0 rfl rfl (vp_in_nI (n := 3) (N := 4) (by decide) (by decide)) d_M_stretch_240 (fun H locs hP hD hS => ?_)
                                have hP : va_P D vwCl [(b_x, .inr (9, [.ref b_row, .ref b_part, .ref b_mem, .ref b_mrk, .ref b_sf, .ref b_ss, .ref b_sr, .int m_on, .ref b_h, .int m_hc, .ref b_r, .int m_pc, .ref b_in, .int m_giv, .int m_tak, .ref b_out, .int m_put, .int m_st, .int m_cu, .int m_va, .int m_sp, .int m_un, .ref b_k, .int m_kc, .int m_kn, .int m_by, .int m_kd, .int m_tg, .int m_ju])), (b_row, .inl (tc 0, 2400, .inl rowT)), (b_part, .inl (tc 0, 4, .inl (upd (upd (upd m_part (1 : Int32).toNatClampNeg (m_part (0 : Int32).toNatClampNeg)) (0 : Int32).toNatClampNeg 0) (3 : Int32).toNatClampNeg 0)))] H := hP
                                have hD : va_D A [(b_x, .inr (9, [.ref b_row, .ref b_part, .ref b_mem, .ref b_mrk, .ref b_sf, .ref b_ss, .ref b_sr, .int m_on, .ref b_h, .int m_hc, .ref b_r, .int m_pc, .ref b_in, .int m_giv, .int m_tak, .ref b_out, .int m_put, .int m_st, .int m_cu, .int m_va, .int m_sp, .int m_un, .ref b_k, .int m_kc, .int m_kn, .int m_by, .int m_kd, .int m_tg, .int m_ju])), (b_row, .inl (tc 0, 2400, .inl rowT)), (b_part, .inl (tc 0, 4, .inl (upd (upd (upd m_part (1 : Int32).toNatClampNeg (m_part (0 : Int32).toNatClampNeg)) (0 : Int32).toNatClampNeg 0) (3 : Int32).toNatClampNeg 0)))] := hD
                                refine lv_aload_n hx hb d_M_stretch_241 rfl (lv_at hl 3 rfl) ?_
                                refine lv_iload_n hx hb d_M_stretch_242 rfl (lv_at hl 4 rfl) ?_
                                refine roSi (As := [.int x0]) (rest := [.ref b_x]) ⟨hx, hb, hml, hown, hts⟩ (mc_StepMachineModel_longKind l D tc tb z0 x0) (va_cwS 1 hts (goodS a_827 a_828 a_10 a_829) rfl rfl rfl hs_M_longKind ⟨Nat.le_of_ble_eq_true rfl, Nat.le_of_ble_eq_true rfl⟩) (hP.sub [] rfl) hK (hB.kept hS hZ) rfl hl.1 rfl (Nat.le_of_ble_eq_true rfl) d_M_stretch_243 ⟨Nat.zero_le _, Nat.zero_le _⟩ ?_
                                refine roVi (As := [.int (mF_StepMachineModel_longKind x0)]) (rest := []) ⟨hx, hb, hml, hown, hts⟩ (mc_StepMachineModel_put l D tc tb z0 b_x b_row b_part b_mem b_mrk b_sf b_ss b_sr b_h b_r b_in b_out b_k m_on m_hc m_pc m_giv m_tak m_put m_st m_cu m_va m_sp m_un m_kc m_kn m_by m_kd m_tg m_ju (upd (upd (upd m_part (1 : Int32).toNatClampNeg (m_part (0 : Int32).toNatClampNeg)) (0 : Int32).toNatClampNeg 0) (3 : Int32).toNatClampNeg 0) (mF_StepMachineModel_longKind x0) (lk_rng _)) (cwV 1 hts (goodV a_830 a_831 a_934 a_10 a_832) rfl rfl rfl hv_M_put ⟨Nat.le_of_ble_eq_true rfl, Nat.le_of_ble_eq_true rfl⟩) (hP.sub [0, 1, 2] rfl) hK (hB.kept hS hZ) rfl rfl rfl hl.1 rfl (Nat.le_of_ble_eq_true rfl) d_M_stretch_246 ⟨Nat.zero_le _, Nat.zero_le _⟩ ?_
                                exact W.iret (v := (mF_StepMachineModel_put (upd (upd (upd m_part (1 : Int32).toNatClampNeg (m_part (0 : Int32).toNatClampNeg)) (0 : Int32).toNatClampNeg 0) (3 : Int32).toNatClampNeg 0) (mF_StepMachineModel_longKind x0))) hx hb hr (fun t ht hW => ⟨⟨_, (upd (upd (upd m_part (1 : Int32).toNatClampNeg (m_part (0 : Int32).toNatClampNeg)) (0 : Int32).toNatClampNeg 0) (3 : Int32).toNatClampNeg 0), rfl, by rw [mF_StepMachineModel_stretch, if_neg c_10, if_neg c_16, if_neg c_22, if_neg c_28, if_neg c_34, if_pos c_40, if_neg c_64, if_neg c_70, if_neg c_76, if_neg c_82, if_neg c_118, if_neg c_124, if_neg c_130, if_neg c_149, if_pos c_155], by rw [ht]; exact hP, va_K.moved hW.alike hK, hD⟩, hS.F ht⟩) hS.2.2 d_M_stretch_249
                          · skip
                            refine lv_aload_n hx hb d_M_stretch_133 rfl (lv_at hl 3 rfl) ?_
                            refine va_get (D := D) (ci := 9) (v := .ref b_part) (C := "StepMachineModel") (T := TX9) (N := 29) hx hb hts inU_9 hown hK hP 0 rfl rfl 1 (by decide) (hts _ a_634) (fun _ h9 => h9) rfl d_M_stretch_134 ?_
                            refine lv_iconst (v := 1) hx hb d_M_stretch_137 (by decide) ?_
                            refine lv_iconst (v := 0) hx hb d_M_stretch_138 (by decide) ?_
                            refine va_iast hx hb hK hP hD hS 2 0 rfl rfl (vp_in_nI (n := 1) (N := 4) (by decide) (by decide)) d_M_stretch_139 (fun H locs hP hD hS => ?_)
                            have hP : va_P D vwCl [(b_x, .inr (9, [.ref b_row, .ref b_part, .ref b_mem, .ref b_mrk, .ref b_sf, .ref b_ss, .ref b_sr, .int m_on, .ref b_h, .int m_hc, .ref b_r, .int m_pc, .ref b_in, .int m_giv, .int m_tak, .ref b_out, .int m_put, .int m_st, .int m_cu, .int m_va, .int m_sp, .int m_un, .ref b_k, .int m_kc, .int m_kn, .int m_by, .int m_kd, .int m_tg, .int m_ju])), (b_row, .inl (tc 0, 2400, .inl rowT)), (b_part, .inl (tc 0, 4, .inl (upd (upd m_part (1 : Int32).toNatClampNeg (m_part (0 : Int32).toNatClampNeg)) (1 : Int32).toNatClampNeg 0)))] H := hP
                            have hD : va_D A [(b_x, .inr (9, [.ref b_row, .ref b_part, .ref b_mem, .ref b_mrk, .ref b_sf, .ref b_ss, .ref b_sr, .int m_on, .ref b_h, .int m_hc, .ref b_r, .int m_pc, .ref b_in, .int m_giv, .int m_tak, .ref b_out, .int m_put, .int m_st, .int m_cu, .int m_va, .int m_sp, .int m_un, .ref b_k, .int m_kc, .int m_kn, .int m_by, .int m_kd, .int m_tg, .int m_ju])), (b_row, .inl (tc 0, 2400, .inl rowT)), (b_part, .inl (tc 0, 4, .inl (upd (upd m_part (1 : Int32).toNatClampNeg (m_part (0 : Int32).toNatClampNeg)) (1 : Int32).toNatClampNeg 0)))] := hD
                            refine lv_iload_n hx hb d_M_stretch_140 rfl (lv_at hl 4 rfl) ?_
                            refine lv_bipush (v := 51) hx hb d_M_stretch_141 (by decide) ?_
                            refine lv_icmp_eq (tgt := 158) hx hb d_M_stretch_143 (by decide) (fun c_143 => absurd c_143 c_118) (fun c_143 => ?_)
                            refine lv_iload_n hx hb d_M_stretch_146 rfl (lv_at hl 4 rfl) ?_
                            refine lv_bipush (v := 64) hx hb d_M_stretch_147 (by decide) ?_
                            refine lv_icmp_eq (tgt := 158) hx hb d_M_stretch_149 (by decide) (fun c_149 => absurd c_149 (by rw [c_130]; decide)) (fun c_149 => ?_)
                            refine lv_iload_n hx hb d_M_stretch_152 rfl (lv_at hl 4 rfl) ?_
                            refine lv_bipush (v := 69) hx hb d_M_stretch_153 (by decide) ?_
                            refine lv_icmp_ne (tgt := 165) hx hb d_M_stretch_155 (by decide) (fun c_155 => ?_) (fun c_155 => absurd c_155 (by rw [c_130]; decide))
                            refine lv_iload_n hx hb d_M_stretch_165 rfl (lv_at hl 4 rfl) ?_
                            refine lv_bipush (v := 53) hx hb d_M_stretch_166 (by decide) ?_
                            refine lv_icmp_eq (tgt := 177) hx hb d_M_stretch_168 (by decide) (fun c_168 => absurd c_168 (by rw [c_130]; decide)) (fun c_168 => ?_)
                            refine lv_iload_n hx hb d_M_stretch_171 rfl (lv_at hl 4 rfl) ?_
                            refine lv_bipush (v := 72) hx hb d_M_stretch_172 (by decide) ?_
                            refine lv_icmp_ne (tgt := 184) hx hb d_M_stretch_174 (by decide) (fun c_174 => ?_) (fun c_174 => absurd c_174 (by rw [c_130]; decide))
                            refine lv_iload_n hx hb d_M_stretch_184 rfl (lv_at hl 4 rfl) ?_
                            refine lv_bipush (v := 55) hx hb d_M_stretch_185 (by decide) ?_
                            refine lv_icmp_ne (tgt := 197) hx hb d_M_stretch_187 (by decide) (fun c_187 => ?_) (fun c_187 => absurd c_187 c_70)
                            refine lv_iload_n hx hb d_M_stretch_197 rfl (lv_at hl 4 rfl) ?_
                            refine lv_bipush (v := 65) hx hb d_M_stretch_198 (by decide) ?_
                            refine lv_icmp_eq (tgt := 209) hx hb d_M_stretch_200 (by decide) (fun c_200 => absurd c_200 (by rw [c_130]; decide)) (fun c_200 => ?_)
                            refine lv_iload_n hx hb d_M_stretch_203 rfl (lv_at hl 4 rfl) ?_
                            refine lv_bipush (v := 66) hx hb d_M_stretch_204 (by decide) ?_
                            refine lv_icmp_ne (tgt := 216) hx hb d_M_stretch_206 (by decide) (fun c_206 => ?_) (fun c_206 => absurd c_206 (by rw [c_130]; decide))
                            refine lv_iload_n hx hb d_M_stretch_216 rfl (lv_at hl 4 rfl) ?_
                            refine lv_bipush (v := 51) hx hb d_M_stretch_217 (by decide) ?_
                            refine lv_icmp_eq (tgt := 234) hx hb d_M_stretch_219 (by decide) (fun c_219 => absurd c_219 c_118) (fun c_219 => ?_)
                            refine lv_iload_n hx hb d_M_stretch_222 rfl (lv_at hl 4 rfl) ?_
                            refine lv_bipush (v := 69) hx hb d_M_stretch_223 (by decide) ?_
                            refine lv_icmp_eq (tgt := 234) hx hb d_M_stretch_225 (by decide) (fun c_225 => absurd c_225 (by rw [c_130]; decide)) (fun c_225 => ?_)
                            refine lv_iload_n hx hb d_M_stretch_228 rfl (lv_at hl 4 rfl) ?_
                            refine lv_bipush (v := 72) hx hb d_M_stretch_229 (by decide) ?_
                            refine lv_icmp_ne (tgt := 241) hx hb d_M_stretch_231 (by decide) (fun c_231 => ?_) (fun c_231 => absurd c_231 (by rw [c_130]; decide))
                            refine lv_aload_n hx hb d_M_stretch_241 rfl (lv_at hl 3 rfl) ?_
                            refine lv_iload_n hx hb d_M_stretch_242 rfl (lv_at hl 4 rfl) ?_
                            refine roSi (As := [.int x0]) (rest := [.ref b_x]) ⟨hx, hb, hml, hown, hts⟩ (mc_StepMachineModel_longKind l D tc tb z0 x0) (va_cwS 1 hts (goodS a_827 a_828 a_10 a_829) rfl rfl rfl hs_M_longKind ⟨Nat.le_of_ble_eq_true rfl, Nat.le_of_ble_eq_true rfl⟩) (hP.sub [] rfl) hK (hB.kept hS hZ) rfl hl.1 rfl (Nat.le_of_ble_eq_true rfl) d_M_stretch_243 ⟨Nat.zero_le _, Nat.zero_le _⟩ ?_
                            refine roVi (As := [.int (mF_StepMachineModel_longKind x0)]) (rest := []) ⟨hx, hb, hml, hown, hts⟩ (mc_StepMachineModel_put l D tc tb z0 b_x b_row b_part b_mem b_mrk b_sf b_ss b_sr b_h b_r b_in b_out b_k m_on m_hc m_pc m_giv m_tak m_put m_st m_cu m_va m_sp m_un m_kc m_kn m_by m_kd m_tg m_ju (upd (upd m_part (1 : Int32).toNatClampNeg (m_part (0 : Int32).toNatClampNeg)) (1 : Int32).toNatClampNeg 0) (mF_StepMachineModel_longKind x0) (lk_rng _)) (cwV 1 hts (goodV a_830 a_831 a_934 a_10 a_832) rfl rfl rfl hv_M_put ⟨Nat.le_of_ble_eq_true rfl, Nat.le_of_ble_eq_true rfl⟩) (hP.sub [0, 1, 2] rfl) hK (hB.kept hS hZ) rfl rfl rfl hl.1 rfl (Nat.le_of_ble_eq_true rfl) d_M_stretch_246 ⟨Nat.zero_le _, Nat.zero_le _⟩ ?_
                            exact W.iret (v := (mF_StepMachineModel_put (upd (upd m_part (1 : Int32).toNatClampNeg (m_part (0 : Int32).toNatClampNeg)) (1 : Int32).toNatClampNeg 0) (mF_StepMachineModel_longKind x0))) hx hb hr (fun t ht hW => ⟨⟨_, (upd (upd m_part (1 : Int32).toNatClampNeg (m_part (0 : Int32).toNatClampNeg)) (1 : Int32).toNatClampNeg 0), rfl, by rw [mF_StepMachineModel_stretch, if_neg c_10, if_neg c_16, if_neg c_22, if_neg c_28, if_neg c_34, if_pos c_40, if_neg c_64, if_neg c_70, if_neg c_76, if_neg c_82, if_neg c_118, if_neg c_124, if_pos c_130], by rw [ht]; exact hP, va_K.moved hW.alike hK, hD⟩, hS.F ht⟩) hS.2.2 d_M_stretch_249
                    · skip
                      refine lv_iconst (v := 1) hx hb d_M_stretch_85 (by decide) ?_
                      refine lv_goto (tgt := 90) hx hb d_M_stretch_86 (by decide) ?_
                      refine lv_istore (lv' := [(4, .int 1), (3, .int 1), (2, .int (m_part (0 : Int32).toNatClampNeg)), (0, .ref b_x), (1, .int x0)]) hx hb d_M_stretch_90 hl (by decide) rfl (fun ls hl => ?_)
                      refine lv_iload_n hx hb d_M_stretch_92 rfl (lv_at hl 1 rfl) ?_
                      refine lv_if_eq (tgt := 103) hx hb d_M_stretch_93 (by decide) (fun c_93 => absurd c_93 (by decide)) (fun c_93 => ?_)
                      refine lv_aload_n hx hb d_M_stretch_96 rfl (lv_at hl 3 rfl) ?_
                      refine va_get (D := D) (ci := 9) (v := .ref b_part) (C := "StepMachineModel") (T := TX9) (N := 29) hx hb hts inU_9 hown hK hP 0 rfl rfl 1 (by decide) (hts _ a_634) (fun _ h9 => h9) rfl d_M_stretch_97 ?_
                      refine lv_iconst (v := 1) hx hb d_M_stretch_100 (by decide) ?_
                      refine lv_iload_n hx hb d_M_stretch_101 rfl (lv_at hl 2 rfl) ?_
                      refine va_iast hx hb hK hP hD hS 2 0 rfl rfl (vp_in_nI (n := 1) (N := 4) (by decide) (by decide)) d_M_stretch_102 (fun H locs hP hD hS => ?_)
                      have hP : va_P D vwCl [(b_x, .inr (9, [.ref b_row, .ref b_part, .ref b_mem, .ref b_mrk, .ref b_sf, .ref b_ss, .ref b_sr, .int m_on, .ref b_h, .int m_hc, .ref b_r, .int m_pc, .ref b_in, .int m_giv, .int m_tak, .ref b_out, .int m_put, .int m_st, .int m_cu, .int m_va, .int m_sp, .int m_un, .ref b_k, .int m_kc, .int m_kn, .int m_by, .int m_kd, .int m_tg, .int m_ju])), (b_row, .inl (tc 0, 2400, .inl rowT)), (b_part, .inl (tc 0, 4, .inl (upd m_part (1 : Int32).toNatClampNeg (m_part (0 : Int32).toNatClampNeg))))] H := hP
                      have hD : va_D A [(b_x, .inr (9, [.ref b_row, .ref b_part, .ref b_mem, .ref b_mrk, .ref b_sf, .ref b_ss, .ref b_sr, .int m_on, .ref b_h, .int m_hc, .ref b_r, .int m_pc, .ref b_in, .int m_giv, .int m_tak, .ref b_out, .int m_put, .int m_st, .int m_cu, .int m_va, .int m_sp, .int m_un, .ref b_k, .int m_kc, .int m_kn, .int m_by, .int m_kd, .int m_tg, .int m_ju])), (b_row, .inl (tc 0, 2400, .inl rowT)), (b_part, .inl (tc 0, 4, .inl (upd m_part (1 : Int32).toNatClampNeg (m_part (0 : Int32).toNatClampNeg))))] := hD
                      refine lv_iload hx hb d_M_stretch_103 (lv_at hl 0 rfl) ?_
                      refine lv_if_eq (tgt := 115) hx hb d_M_stretch_105 (by decide) (fun c_105 => absurd c_105 (by decide)) (fun c_105 => ?_)
                      refine lv_aload_n hx hb d_M_stretch_108 rfl (lv_at hl 3 rfl) ?_
                      refine va_get (D := D) (ci := 9) (v := .ref b_part) (C := "StepMachineModel") (T := TX9) (N := 29) hx hb hts inU_9 hown hK hP 0 rfl rfl 1 (by decide) (hts _ a_634) (fun _ h9 => h9) rfl d_M_stretch_109 ?_
                      refine lv_iconst (v := 1) hx hb d_M_stretch_112 (by decide) ?_
                      refine lv_iconst (v := 2) hx hb d_M_stretch_113 (by decide) ?_
                      refine va_iast hx hb hK hP hD hS 2 0 rfl rfl (vp_in_nI (n := 1) (N := 4) (by decide) (by decide)) d_M_stretch_114 (fun H locs hP hD hS => ?_)
                      have hP : va_P D vwCl [(b_x, .inr (9, [.ref b_row, .ref b_part, .ref b_mem, .ref b_mrk, .ref b_sf, .ref b_ss, .ref b_sr, .int m_on, .ref b_h, .int m_hc, .ref b_r, .int m_pc, .ref b_in, .int m_giv, .int m_tak, .ref b_out, .int m_put, .int m_st, .int m_cu, .int m_va, .int m_sp, .int m_un, .ref b_k, .int m_kc, .int m_kn, .int m_by, .int m_kd, .int m_tg, .int m_ju])), (b_row, .inl (tc 0, 2400, .inl rowT)), (b_part, .inl (tc 0, 4, .inl (upd (upd m_part (1 : Int32).toNatClampNeg (m_part (0 : Int32).toNatClampNeg)) (1 : Int32).toNatClampNeg 2)))] H := hP
                      have hD : va_D A [(b_x, .inr (9, [.ref b_row, .ref b_part, .ref b_mem, .ref b_mrk, .ref b_sf, .ref b_ss, .ref b_sr, .int m_on, .ref b_h, .int m_hc, .ref b_r, .int m_pc, .ref b_in, .int m_giv, .int m_tak, .ref b_out, .int m_put, .int m_st, .int m_cu, .int m_va, .int m_sp, .int m_un, .ref b_k, .int m_kc, .int m_kn, .int m_by, .int m_kd, .int m_tg, .int m_ju])), (b_row, .inl (tc 0, 2400, .inl rowT)), (b_part, .inl (tc 0, 4, .inl (upd (upd m_part (1 : Int32).toNatClampNeg (m_part (0 : Int32).toNatClampNeg)) (1 : Int32).toNatClampNeg 2)))] := hD
                      refine lv_iload_n hx hb d_M_stretch_115 rfl (lv_at hl 4 rfl) ?_
                      refine lv_bipush (v := 51) hx hb d_M_stretch_116 (by decide) ?_
                      refine lv_icmp_eq (tgt := 133) hx hb d_M_stretch_118 (by decide) (fun c_118 => absurd c_118 (by rw [c_82]; decide)) (fun c_118 => ?_)
                      refine lv_iload_n hx hb d_M_stretch_121 rfl (lv_at hl 4 rfl) ?_
                      refine lv_bipush (v := 54) hx hb d_M_stretch_122 (by decide) ?_
                      refine lv_icmp_eq (tgt := 133) hx hb d_M_stretch_124 (by decide) (fun c_124 => absurd c_124 (by rw [c_82]; decide)) (fun c_124 => ?_)
                      refine lv_iload_n hx hb d_M_stretch_127 rfl (lv_at hl 4 rfl) ?_
                      refine lv_bipush (v := 70) hx hb d_M_stretch_128 (by decide) ?_
                      refine lv_icmp_ne (tgt := 140) hx hb d_M_stretch_130 (by decide) (fun c_130 => ?_) (fun c_130 => absurd c_130 (by rw [c_82]; decide))
                      refine lv_iload_n hx hb d_M_stretch_140 rfl (lv_at hl 4 rfl) ?_
                      refine lv_bipush (v := 51) hx hb d_M_stretch_141 (by decide) ?_
                      refine lv_icmp_eq (tgt := 158) hx hb d_M_stretch_143 (by decide) (fun c_143 => absurd c_143 (by rw [c_82]; decide)) (fun c_143 => ?_)
                      refine lv_iload_n hx hb d_M_stretch_146 rfl (lv_at hl 4 rfl) ?_
                      refine lv_bipush (v := 64) hx hb d_M_stretch_147 (by decide) ?_
                      refine lv_icmp_eq (tgt := 158) hx hb d_M_stretch_149 (by decide) (fun c_149 => absurd c_149 (by rw [c_82]; decide)) (fun c_149 => ?_)
                      refine lv_iload_n hx hb d_M_stretch_152 rfl (lv_at hl 4 rfl) ?_
                      refine lv_bipush (v := 69) hx hb d_M_stretch_153 (by decide) ?_
                      refine lv_icmp_ne (tgt := 165) hx hb d_M_stretch_155 (by decide) (fun c_155 => ?_) (fun c_155 => absurd c_155 (by rw [c_82]; decide))
                      refine lv_iload_n hx hb d_M_stretch_165 rfl (lv_at hl 4 rfl) ?_
                      refine lv_bipush (v := 53) hx hb d_M_stretch_166 (by decide) ?_
                      refine lv_icmp_eq (tgt := 177) hx hb d_M_stretch_168 (by decide) (fun c_168 => absurd c_168 (by rw [c_82]; decide)) (fun c_168 => ?_)
                      refine lv_iload_n hx hb d_M_stretch_171 rfl (lv_at hl 4 rfl) ?_
                      refine lv_bipush (v := 72) hx hb d_M_stretch_172 (by decide) ?_
                      refine lv_icmp_ne (tgt := 184) hx hb d_M_stretch_174 (by decide) (fun c_174 => ?_) (fun c_174 => absurd c_174 (by rw [c_82]; decide))
                      refine lv_iload_n hx hb d_M_stretch_184 rfl (lv_at hl 4 rfl) ?_
                      refine lv_bipush (v := 55) hx hb d_M_stretch_185 (by decide) ?_
                      refine lv_icmp_ne (tgt := 197) hx hb d_M_stretch_187 (by decide) (fun c_187 => ?_) (fun c_187 => absurd c_187 c_70)
                      refine lv_iload_n hx hb d_M_stretch_197 rfl (lv_at hl 4 rfl) ?_
                      refine lv_bipush (v := 65) hx hb d_M_stretch_198 (by decide) ?_
                      refine lv_icmp_eq (tgt := 209) hx hb d_M_stretch_200 (by decide) (fun c_200 => absurd c_200 (by rw [c_82]; decide)) (fun c_200 => ?_)
                      refine lv_iload_n hx hb d_M_stretch_203 rfl (lv_at hl 4 rfl) ?_
                      refine lv_bipush (v := 66) hx hb d_M_stretch_204 (by decide) ?_
                      refine lv_icmp_ne (tgt := 216) hx hb d_M_stretch_206 (by decide) (fun c_206 => ?_) (fun c_206 => absurd c_206 (by rw [c_82]; decide))
                      refine lv_iload_n hx hb d_M_stretch_216 rfl (lv_at hl 4 rfl) ?_
                      refine lv_bipush (v := 51) hx hb d_M_stretch_217 (by decide) ?_
                      refine lv_icmp_eq (tgt := 234) hx hb d_M_stretch_219 (by decide) (fun c_219 => absurd c_219 (by rw [c_82]; decide)) (fun c_219 => ?_)
                      refine lv_iload_n hx hb d_M_stretch_222 rfl (lv_at hl 4 rfl) ?_
                      refine lv_bipush (v := 69) hx hb d_M_stretch_223 (by decide) ?_
                      refine lv_icmp_eq (tgt := 234) hx hb d_M_stretch_225 (by decide) (fun c_225 => absurd c_225 (by rw [c_82]; decide)) (fun c_225 => ?_)
                      refine lv_iload_n hx hb d_M_stretch_228 rfl (lv_at hl 4 rfl) ?_
                      refine lv_bipush (v := 72) hx hb d_M_stretch_229 (by decide) ?_
                      refine lv_icmp_ne (tgt := 241) hx hb d_M_stretch_231 (by decide) (fun c_231 => ?_) (fun c_231 => absurd c_231 (by rw [c_82]; decide))
                      refine lv_aload_n hx hb d_M_stretch_241 rfl (lv_at hl 3 rfl) ?_
                      refine lv_iload_n hx hb d_M_stretch_242 rfl (lv_at hl 4 rfl) ?_
                      refine roSi (As := [.int x0]) (rest := [.ref b_x]) ⟨hx, hb, hml, hown, hts⟩ (mc_StepMachineModel_longKind l D tc tb z0 x0) (va_cwS 1 hts (goodS a_827 a_828 a_10 a_829) rfl rfl rfl hs_M_longKind ⟨Nat.le_of_ble_eq_true rfl, Nat.le_of_ble_eq_true rfl⟩) (hP.sub [] rfl) hK (hB.kept hS hZ) rfl hl.1 rfl (Nat.le_of_ble_eq_true rfl) d_M_stretch_243 ⟨Nat.zero_le _, Nat.zero_le _⟩ ?_
                      refine roVi (As := [.int (mF_StepMachineModel_longKind x0)]) (rest := []) ⟨hx, hb, hml, hown, hts⟩ (mc_StepMachineModel_put l D tc tb z0 b_x b_row b_part b_mem b_mrk b_sf b_ss b_sr b_h b_r b_in b_out b_k m_on m_hc m_pc m_giv m_tak m_put m_st m_cu m_va m_sp m_un m_kc m_kn m_by m_kd m_tg m_ju (upd (upd m_part (1 : Int32).toNatClampNeg (m_part (0 : Int32).toNatClampNeg)) (1 : Int32).toNatClampNeg 2) (mF_StepMachineModel_longKind x0) (lk_rng _)) (cwV 1 hts (goodV a_830 a_831 a_934 a_10 a_832) rfl rfl rfl hv_M_put ⟨Nat.le_of_ble_eq_true rfl, Nat.le_of_ble_eq_true rfl⟩) (hP.sub [0, 1, 2] rfl) hK (hB.kept hS hZ) rfl rfl rfl hl.1 rfl (Nat.le_of_ble_eq_true rfl) d_M_stretch_246 ⟨Nat.zero_le _, Nat.zero_le _⟩ ?_
                      exact W.iret (v := (mF_StepMachineModel_put (upd (upd m_part (1 : Int32).toNatClampNeg (m_part (0 : Int32).toNatClampNeg)) (1 : Int32).toNatClampNeg 2) (mF_StepMachineModel_longKind x0))) hx hb hr (fun t ht hW => ⟨⟨_, (upd (upd m_part (1 : Int32).toNatClampNeg (m_part (0 : Int32).toNatClampNeg)) (1 : Int32).toNatClampNeg 2), rfl, by rw [mF_StepMachineModel_stretch, if_neg c_10, if_neg c_16, if_neg c_22, if_neg c_28, if_neg c_34, if_pos c_40, if_neg c_64, if_neg c_70, if_neg c_76, if_pos c_82], by rw [ht]; exact hP, va_K.moved hW.alike hK, hD⟩, hS.F ht⟩) hS.2.2 d_M_stretch_249
            · skip
              refine lv_iload_n hx hb d_M_stretch_43 rfl (lv_at hl 2 rfl) ?_
              refine lv_bipush (v := 67) hx hb d_M_stretch_44 (by decide) ?_
              refine lv_icmp_eq (tgt := 55) hx hb d_M_stretch_46 (by decide) (fun c_46 => ?_) (fun c_46 => ?_)
              · skip
                refine lv_iconst (v := 1) hx hb d_M_stretch_55 (by decide) ?_
                refine lv_goto (tgt := 60) hx hb d_M_stretch_56 (by decide) ?_
                refine lv_istore_n (lv' := [(3, .int 1), (2, .int (m_part (0 : Int32).toNatClampNeg)), (0, .ref b_x), (1, .int x0)]) hx hb d_M_stretch_60 rfl hl (by decide) rfl (fun ls hl => ?_)
                refine lv_iload_n hx hb d_M_stretch_61 rfl (lv_at hl 3 rfl) ?_
                refine lv_bipush (v := 48) hx hb d_M_stretch_62 (by decide) ?_
                refine lv_icmp_eq (tgt := 85) hx hb d_M_stretch_64 (by decide) (fun c_64 => absurd c_64 (by rw [c_46]; decide)) (fun c_64 => ?_)
                refine lv_iload_n hx hb d_M_stretch_67 rfl (lv_at hl 3 rfl) ?_
                refine lv_bipush (v := 55) hx hb d_M_stretch_68 (by decide) ?_
                refine lv_icmp_eq (tgt := 85) hx hb d_M_stretch_70 (by decide) (fun c_70 => absurd c_70 (by rw [c_46]; decide)) (fun c_70 => ?_)
                refine lv_iload_n hx hb d_M_stretch_73 rfl (lv_at hl 3 rfl) ?_
                refine lv_bipush (v := 68) hx hb d_M_stretch_74 (by decide) ?_
                refine lv_icmp_eq (tgt := 85) hx hb d_M_stretch_76 (by decide) (fun c_76 => absurd c_76 (by rw [c_46]; decide)) (fun c_76 => ?_)
                refine lv_iload_n hx hb d_M_stretch_79 rfl (lv_at hl 3 rfl) ?_
                refine lv_bipush (v := 74) hx hb d_M_stretch_80 (by decide) ?_
                refine lv_icmp_ne (tgt := 89) hx hb d_M_stretch_82 (by decide) (fun c_82 => ?_) (fun c_82 => absurd c_82 (by rw [c_46]; decide))
                refine lv_iconst (v := 0) hx hb d_M_stretch_89 (by decide) ?_
                refine lv_istore (lv' := [(4, .int 0), (3, .int 1), (2, .int (m_part (0 : Int32).toNatClampNeg)), (0, .ref b_x), (1, .int x0)]) hx hb d_M_stretch_90 hl (by decide) rfl (fun ls hl => ?_)
                refine lv_iload_n hx hb d_M_stretch_92 rfl (lv_at hl 1 rfl) ?_
                refine lv_if_eq (tgt := 103) hx hb d_M_stretch_93 (by decide) (fun c_93 => absurd c_93 (by decide)) (fun c_93 => ?_)
                refine lv_aload_n hx hb d_M_stretch_96 rfl (lv_at hl 3 rfl) ?_
                refine va_get (D := D) (ci := 9) (v := .ref b_part) (C := "StepMachineModel") (T := TX9) (N := 29) hx hb hts inU_9 hown hK hP 0 rfl rfl 1 (by decide) (hts _ a_634) (fun _ h9 => h9) rfl d_M_stretch_97 ?_
                refine lv_iconst (v := 1) hx hb d_M_stretch_100 (by decide) ?_
                refine lv_iload_n hx hb d_M_stretch_101 rfl (lv_at hl 2 rfl) ?_
                refine va_iast hx hb hK hP hD hS 2 0 rfl rfl (vp_in_nI (n := 1) (N := 4) (by decide) (by decide)) d_M_stretch_102 (fun H locs hP hD hS => ?_)
                have hP : va_P D vwCl [(b_x, .inr (9, [.ref b_row, .ref b_part, .ref b_mem, .ref b_mrk, .ref b_sf, .ref b_ss, .ref b_sr, .int m_on, .ref b_h, .int m_hc, .ref b_r, .int m_pc, .ref b_in, .int m_giv, .int m_tak, .ref b_out, .int m_put, .int m_st, .int m_cu, .int m_va, .int m_sp, .int m_un, .ref b_k, .int m_kc, .int m_kn, .int m_by, .int m_kd, .int m_tg, .int m_ju])), (b_row, .inl (tc 0, 2400, .inl rowT)), (b_part, .inl (tc 0, 4, .inl (upd m_part (1 : Int32).toNatClampNeg (m_part (0 : Int32).toNatClampNeg))))] H := hP
                have hD : va_D A [(b_x, .inr (9, [.ref b_row, .ref b_part, .ref b_mem, .ref b_mrk, .ref b_sf, .ref b_ss, .ref b_sr, .int m_on, .ref b_h, .int m_hc, .ref b_r, .int m_pc, .ref b_in, .int m_giv, .int m_tak, .ref b_out, .int m_put, .int m_st, .int m_cu, .int m_va, .int m_sp, .int m_un, .ref b_k, .int m_kc, .int m_kn, .int m_by, .int m_kd, .int m_tg, .int m_ju])), (b_row, .inl (tc 0, 2400, .inl rowT)), (b_part, .inl (tc 0, 4, .inl (upd m_part (1 : Int32).toNatClampNeg (m_part (0 : Int32).toNatClampNeg))))] := hD
                refine lv_iload hx hb d_M_stretch_103 (lv_at hl 0 rfl) ?_
                refine lv_if_eq (tgt := 115) hx hb d_M_stretch_105 (by decide) (fun c_105 => ?_) (fun c_105 => absurd c_105 (by decide))
                refine lv_iload_n hx hb d_M_stretch_115 rfl (lv_at hl 4 rfl) ?_
                refine lv_bipush (v := 51) hx hb d_M_stretch_116 (by decide) ?_
                refine lv_icmp_eq (tgt := 133) hx hb d_M_stretch_118 (by decide) (fun c_118 => absurd c_118 (by rw [c_46]; decide)) (fun c_118 => ?_)
                refine lv_iload_n hx hb d_M_stretch_121 rfl (lv_at hl 4 rfl) ?_
                refine lv_bipush (v := 54) hx hb d_M_stretch_122 (by decide) ?_
                refine lv_icmp_eq (tgt := 133) hx hb d_M_stretch_124 (by decide) (fun c_124 => absurd c_124 (by rw [c_46]; decide)) (fun c_124 => ?_)
                refine lv_iload_n hx hb d_M_stretch_127 rfl (lv_at hl 4 rfl) ?_
                refine lv_bipush (v := 70) hx hb d_M_stretch_128 (by decide) ?_
                refine lv_icmp_ne (tgt := 140) hx hb d_M_stretch_130 (by decide) (fun c_130 => ?_) (fun c_130 => absurd c_130 (by rw [c_46]; decide))
                refine lv_iload_n hx hb d_M_stretch_140 rfl (lv_at hl 4 rfl) ?_
                refine lv_bipush (v := 51) hx hb d_M_stretch_141 (by decide) ?_
                refine lv_icmp_eq (tgt := 158) hx hb d_M_stretch_143 (by decide) (fun c_143 => absurd c_143 (by rw [c_46]; decide)) (fun c_143 => ?_)
                refine lv_iload_n hx hb d_M_stretch_146 rfl (lv_at hl 4 rfl) ?_
                refine lv_bipush (v := 64) hx hb d_M_stretch_147 (by decide) ?_
                refine lv_icmp_eq (tgt := 158) hx hb d_M_stretch_149 (by decide) (fun c_149 => absurd c_149 (by rw [c_46]; decide)) (fun c_149 => ?_)
                refine lv_iload_n hx hb d_M_stretch_152 rfl (lv_at hl 4 rfl) ?_
                refine lv_bipush (v := 69) hx hb d_M_stretch_153 (by decide) ?_
                refine lv_icmp_ne (tgt := 165) hx hb d_M_stretch_155 (by decide) (fun c_155 => ?_) (fun c_155 => absurd c_155 (by rw [c_46]; decide))
                refine lv_iload_n hx hb d_M_stretch_165 rfl (lv_at hl 4 rfl) ?_
                refine lv_bipush (v := 53) hx hb d_M_stretch_166 (by decide) ?_
                refine lv_icmp_eq (tgt := 177) hx hb d_M_stretch_168 (by decide) (fun c_168 => absurd c_168 (by rw [c_46]; decide)) (fun c_168 => ?_)
                refine lv_iload_n hx hb d_M_stretch_171 rfl (lv_at hl 4 rfl) ?_
                refine lv_bipush (v := 72) hx hb d_M_stretch_172 (by decide) ?_
                refine lv_icmp_ne (tgt := 184) hx hb d_M_stretch_174 (by decide) (fun c_174 => ?_) (fun c_174 => absurd c_174 (by rw [c_46]; decide))
                refine lv_iload_n hx hb d_M_stretch_184 rfl (lv_at hl 4 rfl) ?_
                refine lv_bipush (v := 55) hx hb d_M_stretch_185 (by decide) ?_
                refine lv_icmp_ne (tgt := 197) hx hb d_M_stretch_187 (by decide) (fun c_187 => ?_) (fun c_187 => absurd c_187 (by rw [c_46]; decide))
                refine lv_iload_n hx hb d_M_stretch_197 rfl (lv_at hl 4 rfl) ?_
                refine lv_bipush (v := 65) hx hb d_M_stretch_198 (by decide) ?_
                refine lv_icmp_eq (tgt := 209) hx hb d_M_stretch_200 (by decide) (fun c_200 => absurd c_200 (by rw [c_46]; decide)) (fun c_200 => ?_)
                refine lv_iload_n hx hb d_M_stretch_203 rfl (lv_at hl 4 rfl) ?_
                refine lv_bipush (v := 66) hx hb d_M_stretch_204 (by decide) ?_
                refine lv_icmp_ne (tgt := 216) hx hb d_M_stretch_206 (by decide) (fun c_206 => ?_) (fun c_206 => absurd c_206 (by rw [c_46]; decide))
                refine lv_iload_n hx hb d_M_stretch_216 rfl (lv_at hl 4 rfl) ?_
                refine lv_bipush (v := 51) hx hb d_M_stretch_217 (by decide) ?_
                refine lv_icmp_eq (tgt := 234) hx hb d_M_stretch_219 (by decide) (fun c_219 => absurd c_219 (by rw [c_46]; decide)) (fun c_219 => ?_)
                refine lv_iload_n hx hb d_M_stretch_222 rfl (lv_at hl 4 rfl) ?_
                refine lv_bipush (v := 69) hx hb d_M_stretch_223 (by decide) ?_
                refine lv_icmp_eq (tgt := 234) hx hb d_M_stretch_225 (by decide) (fun c_225 => absurd c_225 (by rw [c_46]; decide)) (fun c_225 => ?_)
                refine lv_iload_n hx hb d_M_stretch_228 rfl (lv_at hl 4 rfl) ?_
                refine lv_bipush (v := 72) hx hb d_M_stretch_229 (by decide) ?_
                refine lv_icmp_ne (tgt := 241) hx hb d_M_stretch_231 (by decide) (fun c_231 => ?_) (fun c_231 => absurd c_231 (by rw [c_46]; decide))
                refine lv_aload_n hx hb d_M_stretch_241 rfl (lv_at hl 3 rfl) ?_
                refine lv_iload_n hx hb d_M_stretch_242 rfl (lv_at hl 4 rfl) ?_
                refine roSi (As := [.int x0]) (rest := [.ref b_x]) ⟨hx, hb, hml, hown, hts⟩ (mc_StepMachineModel_longKind l D tc tb z0 x0) (va_cwS 1 hts (goodS a_827 a_828 a_10 a_829) rfl rfl rfl hs_M_longKind ⟨Nat.le_of_ble_eq_true rfl, Nat.le_of_ble_eq_true rfl⟩) (hP.sub [] rfl) hK (hB.kept hS hZ) rfl hl.1 rfl (Nat.le_of_ble_eq_true rfl) d_M_stretch_243 ⟨Nat.zero_le _, Nat.zero_le _⟩ ?_
                refine roVi (As := [.int (mF_StepMachineModel_longKind x0)]) (rest := []) ⟨hx, hb, hml, hown, hts⟩ (mc_StepMachineModel_put l D tc tb z0 b_x b_row b_part b_mem b_mrk b_sf b_ss b_sr b_h b_r b_in b_out b_k m_on m_hc m_pc m_giv m_tak m_put m_st m_cu m_va m_sp m_un m_kc m_kn m_by m_kd m_tg m_ju (upd m_part (1 : Int32).toNatClampNeg (m_part (0 : Int32).toNatClampNeg)) (mF_StepMachineModel_longKind x0) (lk_rng _)) (cwV 1 hts (goodV a_830 a_831 a_934 a_10 a_832) rfl rfl rfl hv_M_put ⟨Nat.le_of_ble_eq_true rfl, Nat.le_of_ble_eq_true rfl⟩) (hP.sub [0, 1, 2] rfl) hK (hB.kept hS hZ) rfl rfl rfl hl.1 rfl (Nat.le_of_ble_eq_true rfl) d_M_stretch_246 ⟨Nat.zero_le _, Nat.zero_le _⟩ ?_
                exact W.iret (v := (mF_StepMachineModel_put (upd m_part (1 : Int32).toNatClampNeg (m_part (0 : Int32).toNatClampNeg)) (mF_StepMachineModel_longKind x0))) hx hb hr (fun t ht hW => ⟨⟨_, (upd m_part (1 : Int32).toNatClampNeg (m_part (0 : Int32).toNatClampNeg)), rfl, by rw [mF_StepMachineModel_stretch, if_neg c_10, if_neg c_16, if_neg c_22, if_neg c_28, if_neg c_34, if_neg c_40, if_pos c_46], by rw [ht]; exact hP, va_K.moved hW.alike hK, hD⟩, hS.F ht⟩) hS.2.2 d_M_stretch_249
              · skip
                refine lv_iload_n hx hb d_M_stretch_49 rfl (lv_at hl 2 rfl) ?_
                refine lv_bipush (v := 73) hx hb d_M_stretch_50 (by decide) ?_
                refine lv_icmp_ne (tgt := 59) hx hb d_M_stretch_52 (by decide) (fun c_52 => ?_) (fun c_52 => ?_)
                · skip
                  refine lv_iconst (v := 0) hx hb d_M_stretch_59 (by decide) ?_
                  refine lv_istore_n (lv' := [(3, .int 0), (2, .int (m_part (0 : Int32).toNatClampNeg)), (0, .ref b_x), (1, .int x0)]) hx hb d_M_stretch_60 rfl hl (by decide) rfl (fun ls hl => ?_)
                  refine lv_iload_n hx hb d_M_stretch_61 rfl (lv_at hl 3 rfl) ?_
                  refine lv_bipush (v := 48) hx hb d_M_stretch_62 (by decide) ?_
                  refine lv_icmp_eq (tgt := 85) hx hb d_M_stretch_64 (by decide) (fun c_64 => ?_) (fun c_64 => ?_)
                  · skip
                    refine lv_iconst (v := 1) hx hb d_M_stretch_85 (by decide) ?_
                    refine lv_goto (tgt := 90) hx hb d_M_stretch_86 (by decide) ?_
                    refine lv_istore (lv' := [(4, .int 1), (3, .int 0), (2, .int (m_part (0 : Int32).toNatClampNeg)), (0, .ref b_x), (1, .int x0)]) hx hb d_M_stretch_90 hl (by decide) rfl (fun ls hl => ?_)
                    refine lv_iload_n hx hb d_M_stretch_92 rfl (lv_at hl 1 rfl) ?_
                    refine lv_if_eq (tgt := 103) hx hb d_M_stretch_93 (by decide) (fun c_93 => ?_) (fun c_93 => absurd c_93 (by decide))
                    refine lv_iload hx hb d_M_stretch_103 (lv_at hl 0 rfl) ?_
                    refine lv_if_eq (tgt := 115) hx hb d_M_stretch_105 (by decide) (fun c_105 => absurd c_105 (by decide)) (fun c_105 => ?_)
                    refine lv_aload_n hx hb d_M_stretch_108 rfl (lv_at hl 3 rfl) ?_
                    refine va_get (D := D) (ci := 9) (v := .ref b_part) (C := "StepMachineModel") (T := TX9) (N := 29) hx hb hts inU_9 hown hK hP 0 rfl rfl 1 (by decide) (hts _ a_634) (fun _ h9 => h9) rfl d_M_stretch_109 ?_
                    refine lv_iconst (v := 1) hx hb d_M_stretch_112 (by decide) ?_
                    refine lv_iconst (v := 2) hx hb d_M_stretch_113 (by decide) ?_
                    refine va_iast hx hb hK hP hD hS 2 0 rfl rfl (vp_in_nI (n := 1) (N := 4) (by decide) (by decide)) d_M_stretch_114 (fun H locs hP hD hS => ?_)
                    have hP : va_P D vwCl [(b_x, .inr (9, [.ref b_row, .ref b_part, .ref b_mem, .ref b_mrk, .ref b_sf, .ref b_ss, .ref b_sr, .int m_on, .ref b_h, .int m_hc, .ref b_r, .int m_pc, .ref b_in, .int m_giv, .int m_tak, .ref b_out, .int m_put, .int m_st, .int m_cu, .int m_va, .int m_sp, .int m_un, .ref b_k, .int m_kc, .int m_kn, .int m_by, .int m_kd, .int m_tg, .int m_ju])), (b_row, .inl (tc 0, 2400, .inl rowT)), (b_part, .inl (tc 0, 4, .inl (upd m_part (1 : Int32).toNatClampNeg 2)))] H := hP
                    have hD : va_D A [(b_x, .inr (9, [.ref b_row, .ref b_part, .ref b_mem, .ref b_mrk, .ref b_sf, .ref b_ss, .ref b_sr, .int m_on, .ref b_h, .int m_hc, .ref b_r, .int m_pc, .ref b_in, .int m_giv, .int m_tak, .ref b_out, .int m_put, .int m_st, .int m_cu, .int m_va, .int m_sp, .int m_un, .ref b_k, .int m_kc, .int m_kn, .int m_by, .int m_kd, .int m_tg, .int m_ju])), (b_row, .inl (tc 0, 2400, .inl rowT)), (b_part, .inl (tc 0, 4, .inl (upd m_part (1 : Int32).toNatClampNeg 2)))] := hD
                    refine lv_iload_n hx hb d_M_stretch_115 rfl (lv_at hl 4 rfl) ?_
                    refine lv_bipush (v := 51) hx hb d_M_stretch_116 (by decide) ?_
                    refine lv_icmp_eq (tgt := 133) hx hb d_M_stretch_118 (by decide) (fun c_118 => absurd c_118 (by rw [c_64]; decide)) (fun c_118 => ?_)
                    refine lv_iload_n hx hb d_M_stretch_121 rfl (lv_at hl 4 rfl) ?_
                    refine lv_bipush (v := 54) hx hb d_M_stretch_122 (by decide) ?_
                    refine lv_icmp_eq (tgt := 133) hx hb d_M_stretch_124 (by decide) (fun c_124 => absurd c_124 (by rw [c_64]; decide)) (fun c_124 => ?_)
                    refine lv_iload_n hx hb d_M_stretch_127 rfl (lv_at hl 4 rfl) ?_
                    refine lv_bipush (v := 70) hx hb d_M_stretch_128 (by decide) ?_
                    refine lv_icmp_ne (tgt := 140) hx hb d_M_stretch_130 (by decide) (fun c_130 => ?_) (fun c_130 => absurd c_130 (by rw [c_64]; decide))
                    refine lv_iload_n hx hb d_M_stretch_140 rfl (lv_at hl 4 rfl) ?_
                    refine lv_bipush (v := 51) hx hb d_M_stretch_141 (by decide) ?_
                    refine lv_icmp_eq (tgt := 158) hx hb d_M_stretch_143 (by decide) (fun c_143 => absurd c_143 (by rw [c_64]; decide)) (fun c_143 => ?_)
                    refine lv_iload_n hx hb d_M_stretch_146 rfl (lv_at hl 4 rfl) ?_
                    refine lv_bipush (v := 64) hx hb d_M_stretch_147 (by decide) ?_
                    refine lv_icmp_eq (tgt := 158) hx hb d_M_stretch_149 (by decide) (fun c_149 => absurd c_149 (by rw [c_64]; decide)) (fun c_149 => ?_)
                    refine lv_iload_n hx hb d_M_stretch_152 rfl (lv_at hl 4 rfl) ?_
                    refine lv_bipush (v := 69) hx hb d_M_stretch_153 (by decide) ?_
                    refine lv_icmp_ne (tgt := 165) hx hb d_M_stretch_155 (by decide) (fun c_155 => ?_) (fun c_155 => absurd c_155 (by rw [c_64]; decide))
                    refine lv_iload_n hx hb d_M_stretch_165 rfl (lv_at hl 4 rfl) ?_
                    refine lv_bipush (v := 53) hx hb d_M_stretch_166 (by decide) ?_
                    refine lv_icmp_eq (tgt := 177) hx hb d_M_stretch_168 (by decide) (fun c_168 => absurd c_168 (by rw [c_64]; decide)) (fun c_168 => ?_)
                    refine lv_iload_n hx hb d_M_stretch_171 rfl (lv_at hl 4 rfl) ?_
                    refine lv_bipush (v := 72) hx hb d_M_stretch_172 (by decide) ?_
                    refine lv_icmp_ne (tgt := 184) hx hb d_M_stretch_174 (by decide) (fun c_174 => ?_) (fun c_174 => absurd c_174 (by rw [c_64]; decide))
                    refine lv_iload_n hx hb d_M_stretch_184 rfl (lv_at hl 4 rfl) ?_
                    refine lv_bipush (v := 55) hx hb d_M_stretch_185 (by decide) ?_
                    refine lv_icmp_ne (tgt := 197) hx hb d_M_stretch_187 (by decide) (fun c_187 => ?_) (fun c_187 => absurd c_187 (by rw [c_64]; decide))
                    refine lv_iload_n hx hb d_M_stretch_197 rfl (lv_at hl 4 rfl) ?_
                    refine lv_bipush (v := 65) hx hb d_M_stretch_198 (by decide) ?_
                    refine lv_icmp_eq (tgt := 209) hx hb d_M_stretch_200 (by decide) (fun c_200 => absurd c_200 (by rw [c_64]; decide)) (fun c_200 => ?_)
                    refine lv_iload_n hx hb d_M_stretch_203 rfl (lv_at hl 4 rfl) ?_
                    refine lv_bipush (v := 66) hx hb d_M_stretch_204 (by decide) ?_
                    refine lv_icmp_ne (tgt := 216) hx hb d_M_stretch_206 (by decide) (fun c_206 => ?_) (fun c_206 => absurd c_206 (by rw [c_64]; decide))
                    refine lv_iload_n hx hb d_M_stretch_216 rfl (lv_at hl 4 rfl) ?_
                    refine lv_bipush (v := 51) hx hb d_M_stretch_217 (by decide) ?_
                    refine lv_icmp_eq (tgt := 234) hx hb d_M_stretch_219 (by decide) (fun c_219 => absurd c_219 (by rw [c_64]; decide)) (fun c_219 => ?_)
                    refine lv_iload_n hx hb d_M_stretch_222 rfl (lv_at hl 4 rfl) ?_
                    refine lv_bipush (v := 69) hx hb d_M_stretch_223 (by decide) ?_
                    refine lv_icmp_eq (tgt := 234) hx hb d_M_stretch_225 (by decide) (fun c_225 => absurd c_225 (by rw [c_64]; decide)) (fun c_225 => ?_)
                    refine lv_iload_n hx hb d_M_stretch_228 rfl (lv_at hl 4 rfl) ?_
                    refine lv_bipush (v := 72) hx hb d_M_stretch_229 (by decide) ?_
                    refine lv_icmp_ne (tgt := 241) hx hb d_M_stretch_231 (by decide) (fun c_231 => ?_) (fun c_231 => absurd c_231 (by rw [c_64]; decide))
                    refine lv_aload_n hx hb d_M_stretch_241 rfl (lv_at hl 3 rfl) ?_
                    refine lv_iload_n hx hb d_M_stretch_242 rfl (lv_at hl 4 rfl) ?_
                    refine roSi (As := [.int x0]) (rest := [.ref b_x]) ⟨hx, hb, hml, hown, hts⟩ (mc_StepMachineModel_longKind l D tc tb z0 x0) (va_cwS 1 hts (goodS a_827 a_828 a_10 a_829) rfl rfl rfl hs_M_longKind ⟨Nat.le_of_ble_eq_true rfl, Nat.le_of_ble_eq_true rfl⟩) (hP.sub [] rfl) hK (hB.kept hS hZ) rfl hl.1 rfl (Nat.le_of_ble_eq_true rfl) d_M_stretch_243 ⟨Nat.zero_le _, Nat.zero_le _⟩ ?_
                    refine roVi (As := [.int (mF_StepMachineModel_longKind x0)]) (rest := []) ⟨hx, hb, hml, hown, hts⟩ (mc_StepMachineModel_put l D tc tb z0 b_x b_row b_part b_mem b_mrk b_sf b_ss b_sr b_h b_r b_in b_out b_k m_on m_hc m_pc m_giv m_tak m_put m_st m_cu m_va m_sp m_un m_kc m_kn m_by m_kd m_tg m_ju (upd m_part (1 : Int32).toNatClampNeg 2) (mF_StepMachineModel_longKind x0) (lk_rng _)) (cwV 1 hts (goodV a_830 a_831 a_934 a_10 a_832) rfl rfl rfl hv_M_put ⟨Nat.le_of_ble_eq_true rfl, Nat.le_of_ble_eq_true rfl⟩) (hP.sub [0, 1, 2] rfl) hK (hB.kept hS hZ) rfl rfl rfl hl.1 rfl (Nat.le_of_ble_eq_true rfl) d_M_stretch_246 ⟨Nat.zero_le _, Nat.zero_le _⟩ ?_
                    exact W.iret (v := (mF_StepMachineModel_put (upd m_part (1 : Int32).toNatClampNeg 2) (mF_StepMachineModel_longKind x0))) hx hb hr (fun t ht hW => ⟨⟨_, (upd m_part (1 : Int32).toNatClampNeg 2), rfl, by rw [mF_StepMachineModel_stretch, if_neg c_10, if_neg c_16, if_neg c_22, if_neg c_28, if_neg c_34, if_neg c_40, if_neg c_46, if_neg c_52, if_pos c_64], by rw [ht]; exact hP, va_K.moved hW.alike hK, hD⟩, hS.F ht⟩) hS.2.2 d_M_stretch_249
                  · skip
                    refine lv_iload_n hx hb d_M_stretch_67 rfl (lv_at hl 3 rfl) ?_
                    refine lv_bipush (v := 55) hx hb d_M_stretch_68 (by decide) ?_
                    refine lv_icmp_eq (tgt := 85) hx hb d_M_stretch_70 (by decide) (fun c_70 => ?_) (fun c_70 => ?_)
                    · skip
                      refine lv_iconst (v := 1) hx hb d_M_stretch_85 (by decide) ?_
                      refine lv_goto (tgt := 90) hx hb d_M_stretch_86 (by decide) ?_
                      refine lv_istore (lv' := [(4, .int 1), (3, .int 0), (2, .int (m_part (0 : Int32).toNatClampNeg)), (0, .ref b_x), (1, .int x0)]) hx hb d_M_stretch_90 hl (by decide) rfl (fun ls hl => ?_)
                      refine lv_iload_n hx hb d_M_stretch_92 rfl (lv_at hl 1 rfl) ?_
                      refine lv_if_eq (tgt := 103) hx hb d_M_stretch_93 (by decide) (fun c_93 => ?_) (fun c_93 => absurd c_93 (by decide))
                      refine lv_iload hx hb d_M_stretch_103 (lv_at hl 0 rfl) ?_
                      refine lv_if_eq (tgt := 115) hx hb d_M_stretch_105 (by decide) (fun c_105 => absurd c_105 (by decide)) (fun c_105 => ?_)
                      refine lv_aload_n hx hb d_M_stretch_108 rfl (lv_at hl 3 rfl) ?_
                      refine va_get (D := D) (ci := 9) (v := .ref b_part) (C := "StepMachineModel") (T := TX9) (N := 29) hx hb hts inU_9 hown hK hP 0 rfl rfl 1 (by decide) (hts _ a_634) (fun _ h9 => h9) rfl d_M_stretch_109 ?_
                      refine lv_iconst (v := 1) hx hb d_M_stretch_112 (by decide) ?_
                      refine lv_iconst (v := 2) hx hb d_M_stretch_113 (by decide) ?_
                      refine va_iast hx hb hK hP hD hS 2 0 rfl rfl (vp_in_nI (n := 1) (N := 4) (by decide) (by decide)) d_M_stretch_114 (fun H locs hP hD hS => ?_)
                      have hP : va_P D vwCl [(b_x, .inr (9, [.ref b_row, .ref b_part, .ref b_mem, .ref b_mrk, .ref b_sf, .ref b_ss, .ref b_sr, .int m_on, .ref b_h, .int m_hc, .ref b_r, .int m_pc, .ref b_in, .int m_giv, .int m_tak, .ref b_out, .int m_put, .int m_st, .int m_cu, .int m_va, .int m_sp, .int m_un, .ref b_k, .int m_kc, .int m_kn, .int m_by, .int m_kd, .int m_tg, .int m_ju])), (b_row, .inl (tc 0, 2400, .inl rowT)), (b_part, .inl (tc 0, 4, .inl (upd m_part (1 : Int32).toNatClampNeg 2)))] H := hP
                      have hD : va_D A [(b_x, .inr (9, [.ref b_row, .ref b_part, .ref b_mem, .ref b_mrk, .ref b_sf, .ref b_ss, .ref b_sr, .int m_on, .ref b_h, .int m_hc, .ref b_r, .int m_pc, .ref b_in, .int m_giv, .int m_tak, .ref b_out, .int m_put, .int m_st, .int m_cu, .int m_va, .int m_sp, .int m_un, .ref b_k, .int m_kc, .int m_kn, .int m_by, .int m_kd, .int m_tg, .int m_ju])), (b_row, .inl (tc 0, 2400, .inl rowT)), (b_part, .inl (tc 0, 4, .inl (upd m_part (1 : Int32).toNatClampNeg 2)))] := hD
                      refine lv_iload_n hx hb d_M_stretch_115 rfl (lv_at hl 4 rfl) ?_
                      refine lv_bipush (v := 51) hx hb d_M_stretch_116 (by decide) ?_
                      refine lv_icmp_eq (tgt := 133) hx hb d_M_stretch_118 (by decide) (fun c_118 => absurd c_118 (by rw [c_70]; decide)) (fun c_118 => ?_)
                      refine lv_iload_n hx hb d_M_stretch_121 rfl (lv_at hl 4 rfl) ?_
                      refine lv_bipush (v := 54) hx hb d_M_stretch_122 (by decide) ?_
                      refine lv_icmp_eq (tgt := 133) hx hb d_M_stretch_124 (by decide) (fun c_124 => absurd c_124 (by rw [c_70]; decide)) (fun c_124 => ?_)
                      refine lv_iload_n hx hb d_M_stretch_127 rfl (lv_at hl 4 rfl) ?_
                      refine lv_bipush (v := 70) hx hb d_M_stretch_128 (by decide) ?_
                      refine lv_icmp_ne (tgt := 140) hx hb d_M_stretch_130 (by decide) (fun c_130 => ?_) (fun c_130 => absurd c_130 (by rw [c_70]; decide))
                      refine lv_iload_n hx hb d_M_stretch_140 rfl (lv_at hl 4 rfl) ?_
                      refine lv_bipush (v := 51) hx hb d_M_stretch_141 (by decide) ?_
                      refine lv_icmp_eq (tgt := 158) hx hb d_M_stretch_143 (by decide) (fun c_143 => absurd c_143 (by rw [c_70]; decide)) (fun c_143 => ?_)
                      refine lv_iload_n hx hb d_M_stretch_146 rfl (lv_at hl 4 rfl) ?_
                      refine lv_bipush (v := 64) hx hb d_M_stretch_147 (by decide) ?_
                      refine lv_icmp_eq (tgt := 158) hx hb d_M_stretch_149 (by decide) (fun c_149 => absurd c_149 (by rw [c_70]; decide)) (fun c_149 => ?_)
                      refine lv_iload_n hx hb d_M_stretch_152 rfl (lv_at hl 4 rfl) ?_
                      refine lv_bipush (v := 69) hx hb d_M_stretch_153 (by decide) ?_
                      refine lv_icmp_ne (tgt := 165) hx hb d_M_stretch_155 (by decide) (fun c_155 => ?_) (fun c_155 => absurd c_155 (by rw [c_70]; decide))
                      refine lv_iload_n hx hb d_M_stretch_165 rfl (lv_at hl 4 rfl) ?_
                      refine lv_bipush (v := 53) hx hb d_M_stretch_166 (by decide) ?_
                      refine lv_icmp_eq (tgt := 177) hx hb d_M_stretch_168 (by decide) (fun c_168 => absurd c_168 (by rw [c_70]; decide)) (fun c_168 => ?_)
                      refine lv_iload_n hx hb d_M_stretch_171 rfl (lv_at hl 4 rfl) ?_
                      refine lv_bipush (v := 72) hx hb d_M_stretch_172 (by decide) ?_
                      refine lv_icmp_ne (tgt := 184) hx hb d_M_stretch_174 (by decide) (fun c_174 => ?_) (fun c_174 => absurd c_174 (by rw [c_70]; decide))
                      refine lv_iload_n hx hb d_M_stretch_184 rfl (lv_at hl 4 rfl) ?_
                      refine lv_bipush (v := 55) hx hb d_M_stretch_185 (by decide) ?_
                      refine lv_icmp_ne (tgt := 197) hx hb d_M_stretch_187 (by decide) (fun c_187 => absurd c_70 c_187) (fun c_187 => ?_)
                      refine lv_aload_n hx hb d_M_stretch_190 rfl (lv_at hl 3 rfl) ?_
                      refine va_get (D := D) (ci := 9) (v := .ref b_part) (C := "StepMachineModel") (T := TX9) (N := 29) hx hb hts inU_9 hown hK hP 0 rfl rfl 1 (by decide) (hts _ a_634) (fun _ h9 => h9) rfl d_M_stretch_191 ?_
                      refine lv_iconst (v := 0) hx hb d_M_stretch_194 (by decide) ?_
                      refine lv_iconst (v := 2) hx hb d_M_stretch_195 (by decide) ?_
                      refine va_iast hx hb hK hP hD hS 2 0 rfl rfl (vp_in_nI (n := 0) (N := 4) (by decide) (by decide)) d_M_stretch_196 (fun H locs hP hD hS => ?_)
                      have hP : va_P D vwCl [(b_x, .inr (9, [.ref b_row, .ref b_part, .ref b_mem, .ref b_mrk, .ref b_sf, .ref b_ss, .ref b_sr, .int m_on, .ref b_h, .int m_hc, .ref b_r, .int m_pc, .ref b_in, .int m_giv, .int m_tak, .ref b_out, .int m_put, .int m_st, .int m_cu, .int m_va, .int m_sp, .int m_un, .ref b_k, .int m_kc, .int m_kn, .int m_by, .int m_kd, .int m_tg, .int m_ju])), (b_row, .inl (tc 0, 2400, .inl rowT)), (b_part, .inl (tc 0, 4, .inl (upd (upd m_part (1 : Int32).toNatClampNeg 2) (0 : Int32).toNatClampNeg 2)))] H := hP
                      have hD : va_D A [(b_x, .inr (9, [.ref b_row, .ref b_part, .ref b_mem, .ref b_mrk, .ref b_sf, .ref b_ss, .ref b_sr, .int m_on, .ref b_h, .int m_hc, .ref b_r, .int m_pc, .ref b_in, .int m_giv, .int m_tak, .ref b_out, .int m_put, .int m_st, .int m_cu, .int m_va, .int m_sp, .int m_un, .ref b_k, .int m_kc, .int m_kn, .int m_by, .int m_kd, .int m_tg, .int m_ju])), (b_row, .inl (tc 0, 2400, .inl rowT)), (b_part, .inl (tc 0, 4, .inl (upd (upd m_part (1 : Int32).toNatClampNeg 2) (0 : Int32).toNatClampNeg 2)))] := hD
                      refine lv_iload_n hx hb d_M_stretch_197 rfl (lv_at hl 4 rfl) ?_
                      refine lv_bipush (v := 65) hx hb d_M_stretch_198 (by decide) ?_
                      refine lv_icmp_eq (tgt := 209) hx hb d_M_stretch_200 (by decide) (fun c_200 => absurd c_200 (by rw [c_70]; decide)) (fun c_200 => ?_)
                      refine lv_iload_n hx hb d_M_stretch_203 rfl (lv_at hl 4 rfl) ?_
                      refine lv_bipush (v := 66) hx hb d_M_stretch_204 (by decide) ?_
                      refine lv_icmp_ne (tgt := 216) hx hb d_M_stretch_206 (by decide) (fun c_206 => ?_) (fun c_206 => absurd c_206 (by rw [c_70]; decide))
                      refine lv_iload_n hx hb d_M_stretch_216 rfl (lv_at hl 4 rfl) ?_
                      refine lv_bipush (v := 51) hx hb d_M_stretch_217 (by decide) ?_
                      refine lv_icmp_eq (tgt := 234) hx hb d_M_stretch_219 (by decide) (fun c_219 => absurd c_219 (by rw [c_70]; decide)) (fun c_219 => ?_)
                      refine lv_iload_n hx hb d_M_stretch_222 rfl (lv_at hl 4 rfl) ?_
                      refine lv_bipush (v := 69) hx hb d_M_stretch_223 (by decide) ?_
                      refine lv_icmp_eq (tgt := 234) hx hb d_M_stretch_225 (by decide) (fun c_225 => absurd c_225 (by rw [c_70]; decide)) (fun c_225 => ?_)
                      refine lv_iload_n hx hb d_M_stretch_228 rfl (lv_at hl 4 rfl) ?_
                      refine lv_bipush (v := 72) hx hb d_M_stretch_229 (by decide) ?_
                      refine lv_icmp_ne (tgt := 241) hx hb d_M_stretch_231 (by decide) (fun c_231 => ?_) (fun c_231 => absurd c_231 (by rw [c_70]; decide))
                      refine lv_aload_n hx hb d_M_stretch_241 rfl (lv_at hl 3 rfl) ?_
                      refine lv_iload_n hx hb d_M_stretch_242 rfl (lv_at hl 4 rfl) ?_
                      refine roSi (As := [.int x0]) (rest := [.ref b_x]) ⟨hx, hb, hml, hown, hts⟩ (mc_StepMachineModel_longKind l D tc tb z0 x0) (va_cwS 1 hts (goodS a_827 a_828 a_10 a_829) rfl rfl rfl hs_M_longKind ⟨Nat.le_of_ble_eq_true rfl, Nat.le_of_ble_eq_true rfl⟩) (hP.sub [] rfl) hK (hB.kept hS hZ) rfl hl.1 rfl (Nat.le_of_ble_eq_true rfl) d_M_stretch_243 ⟨Nat.zero_le _, Nat.zero_le _⟩ ?_
                      refine roVi (As := [.int (mF_StepMachineModel_longKind x0)]) (rest := []) ⟨hx, hb, hml, hown, hts⟩ (mc_StepMachineModel_put l D tc tb z0 b_x b_row b_part b_mem b_mrk b_sf b_ss b_sr b_h b_r b_in b_out b_k m_on m_hc m_pc m_giv m_tak m_put m_st m_cu m_va m_sp m_un m_kc m_kn m_by m_kd m_tg m_ju (upd (upd m_part (1 : Int32).toNatClampNeg 2) (0 : Int32).toNatClampNeg 2) (mF_StepMachineModel_longKind x0) (lk_rng _)) (cwV 1 hts (goodV a_830 a_831 a_934 a_10 a_832) rfl rfl rfl hv_M_put ⟨Nat.le_of_ble_eq_true rfl, Nat.le_of_ble_eq_true rfl⟩) (hP.sub [0, 1, 2] rfl) hK (hB.kept hS hZ) rfl rfl rfl hl.1 rfl (Nat.le_of_ble_eq_true rfl) d_M_stretch_246 ⟨Nat.zero_le _, Nat.zero_le _⟩ ?_
                      exact W.iret (v := (mF_StepMachineModel_put (upd (upd m_part (1 : Int32).toNatClampNeg 2) (0 : Int32).toNatClampNeg 2) (mF_StepMachineModel_longKind x0))) hx hb hr (fun t ht hW => ⟨⟨_, (upd (upd m_part (1 : Int32).toNatClampNeg 2) (0 : Int32).toNatClampNeg 2), rfl, by rw [mF_StepMachineModel_stretch, if_neg c_10, if_neg c_16, if_neg c_22, if_neg c_28, if_neg c_34, if_neg c_40, if_neg c_46, if_neg c_52, if_neg c_64, if_pos c_70], by rw [ht]; exact hP, va_K.moved hW.alike hK, hD⟩, hS.F ht⟩) hS.2.2 d_M_stretch_249
                    · skip
                      refine lv_iload_n hx hb d_M_stretch_73 rfl (lv_at hl 3 rfl) ?_
                      refine lv_bipush (v := 68) hx hb d_M_stretch_74 (by decide) ?_
                      refine lv_icmp_eq (tgt := 85) hx hb d_M_stretch_76 (by decide) (fun c_76 => ?_) (fun c_76 => ?_)
                      · skip
                        refine lv_iconst (v := 1) hx hb d_M_stretch_85 (by decide) ?_
                        refine lv_goto (tgt := 90) hx hb d_M_stretch_86 (by decide) ?_
                        refine lv_istore (lv' := [(4, .int 1), (3, .int 0), (2, .int (m_part (0 : Int32).toNatClampNeg)), (0, .ref b_x), (1, .int x0)]) hx hb d_M_stretch_90 hl (by decide) rfl (fun ls hl => ?_)
                        refine lv_iload_n hx hb d_M_stretch_92 rfl (lv_at hl 1 rfl) ?_
                        refine lv_if_eq (tgt := 103) hx hb d_M_stretch_93 (by decide) (fun c_93 => ?_) (fun c_93 => absurd c_93 (by decide))
                        refine lv_iload hx hb d_M_stretch_103 (lv_at hl 0 rfl) ?_
                        refine lv_if_eq (tgt := 115) hx hb d_M_stretch_105 (by decide) (fun c_105 => absurd c_105 (by decide)) (fun c_105 => ?_)
                        refine lv_aload_n hx hb d_M_stretch_108 rfl (lv_at hl 3 rfl) ?_
                        refine va_get (D := D) (ci := 9) (v := .ref b_part) (C := "StepMachineModel") (T := TX9) (N := 29) hx hb hts inU_9 hown hK hP 0 rfl rfl 1 (by decide) (hts _ a_634) (fun _ h9 => h9) rfl d_M_stretch_109 ?_
                        refine lv_iconst (v := 1) hx hb d_M_stretch_112 (by decide) ?_
                        refine lv_iconst (v := 2) hx hb d_M_stretch_113 (by decide) ?_
                        refine va_iast hx hb hK hP hD hS 2 0 rfl rfl (vp_in_nI (n := 1) (N := 4) (by decide) (by decide)) d_M_stretch_114 (fun H locs hP hD hS => ?_)
                        have hP : va_P D vwCl [(b_x, .inr (9, [.ref b_row, .ref b_part, .ref b_mem, .ref b_mrk, .ref b_sf, .ref b_ss, .ref b_sr, .int m_on, .ref b_h, .int m_hc, .ref b_r, .int m_pc, .ref b_in, .int m_giv, .int m_tak, .ref b_out, .int m_put, .int m_st, .int m_cu, .int m_va, .int m_sp, .int m_un, .ref b_k, .int m_kc, .int m_kn, .int m_by, .int m_kd, .int m_tg, .int m_ju])), (b_row, .inl (tc 0, 2400, .inl rowT)), (b_part, .inl (tc 0, 4, .inl (upd m_part (1 : Int32).toNatClampNeg 2)))] H := hP
                        have hD : va_D A [(b_x, .inr (9, [.ref b_row, .ref b_part, .ref b_mem, .ref b_mrk, .ref b_sf, .ref b_ss, .ref b_sr, .int m_on, .ref b_h, .int m_hc, .ref b_r, .int m_pc, .ref b_in, .int m_giv, .int m_tak, .ref b_out, .int m_put, .int m_st, .int m_cu, .int m_va, .int m_sp, .int m_un, .ref b_k, .int m_kc, .int m_kn, .int m_by, .int m_kd, .int m_tg, .int m_ju])), (b_row, .inl (tc 0, 2400, .inl rowT)), (b_part, .inl (tc 0, 4, .inl (upd m_part (1 : Int32).toNatClampNeg 2)))] := hD
                        refine lv_iload_n hx hb d_M_stretch_115 rfl (lv_at hl 4 rfl) ?_
                        refine lv_bipush (v := 51) hx hb d_M_stretch_116 (by decide) ?_
                        refine lv_icmp_eq (tgt := 133) hx hb d_M_stretch_118 (by decide) (fun c_118 => absurd c_118 (by rw [c_76]; decide)) (fun c_118 => ?_)
                        refine lv_iload_n hx hb d_M_stretch_121 rfl (lv_at hl 4 rfl) ?_
                        refine lv_bipush (v := 54) hx hb d_M_stretch_122 (by decide) ?_
                        refine lv_icmp_eq (tgt := 133) hx hb d_M_stretch_124 (by decide) (fun c_124 => absurd c_124 (by rw [c_76]; decide)) (fun c_124 => ?_)
                        refine lv_iload_n hx hb d_M_stretch_127 rfl (lv_at hl 4 rfl) ?_
                        refine lv_bipush (v := 70) hx hb d_M_stretch_128 (by decide) ?_
                        refine lv_icmp_ne (tgt := 140) hx hb d_M_stretch_130 (by decide) (fun c_130 => ?_) (fun c_130 => absurd c_130 (by rw [c_76]; decide))
                        refine lv_iload_n hx hb d_M_stretch_140 rfl (lv_at hl 4 rfl) ?_
                        refine lv_bipush (v := 51) hx hb d_M_stretch_141 (by decide) ?_
                        refine lv_icmp_eq (tgt := 158) hx hb d_M_stretch_143 (by decide) (fun c_143 => absurd c_143 (by rw [c_76]; decide)) (fun c_143 => ?_)
                        refine lv_iload_n hx hb d_M_stretch_146 rfl (lv_at hl 4 rfl) ?_
                        refine lv_bipush (v := 64) hx hb d_M_stretch_147 (by decide) ?_
                        refine lv_icmp_eq (tgt := 158) hx hb d_M_stretch_149 (by decide) (fun c_149 => absurd c_149 (by rw [c_76]; decide)) (fun c_149 => ?_)
                        refine lv_iload_n hx hb d_M_stretch_152 rfl (lv_at hl 4 rfl) ?_
                        refine lv_bipush (v := 69) hx hb d_M_stretch_153 (by decide) ?_
                        refine lv_icmp_ne (tgt := 165) hx hb d_M_stretch_155 (by decide) (fun c_155 => ?_) (fun c_155 => absurd c_155 (by rw [c_76]; decide))
                        refine lv_iload_n hx hb d_M_stretch_165 rfl (lv_at hl 4 rfl) ?_
                        refine lv_bipush (v := 53) hx hb d_M_stretch_166 (by decide) ?_
                        refine lv_icmp_eq (tgt := 177) hx hb d_M_stretch_168 (by decide) (fun c_168 => absurd c_168 (by rw [c_76]; decide)) (fun c_168 => ?_)
                        refine lv_iload_n hx hb d_M_stretch_171 rfl (lv_at hl 4 rfl) ?_
                        refine lv_bipush (v := 72) hx hb d_M_stretch_172 (by decide) ?_
                        refine lv_icmp_ne (tgt := 184) hx hb d_M_stretch_174 (by decide) (fun c_174 => ?_) (fun c_174 => absurd c_174 (by rw [c_76]; decide))
                        refine lv_iload_n hx hb d_M_stretch_184 rfl (lv_at hl 4 rfl) ?_
                        refine lv_bipush (v := 55) hx hb d_M_stretch_185 (by decide) ?_
                        refine lv_icmp_ne (tgt := 197) hx hb d_M_stretch_187 (by decide) (fun c_187 => ?_) (fun c_187 => absurd c_187 c_70)
                        refine lv_iload_n hx hb d_M_stretch_197 rfl (lv_at hl 4 rfl) ?_
                        refine lv_bipush (v := 65) hx hb d_M_stretch_198 (by decide) ?_
                        refine lv_icmp_eq (tgt := 209) hx hb d_M_stretch_200 (by decide) (fun c_200 => absurd c_200 (by rw [c_76]; decide)) (fun c_200 => ?_)
                        refine lv_iload_n hx hb d_M_stretch_203 rfl (lv_at hl 4 rfl) ?_
                        refine lv_bipush (v := 66) hx hb d_M_stretch_204 (by decide) ?_
                        refine lv_icmp_ne (tgt := 216) hx hb d_M_stretch_206 (by decide) (fun c_206 => ?_) (fun c_206 => absurd c_206 (by rw [c_76]; decide))
                        refine lv_iload_n hx hb d_M_stretch_216 rfl (lv_at hl 4 rfl) ?_
                        refine lv_bipush (v := 51) hx hb d_M_stretch_217 (by decide) ?_
                        refine lv_icmp_eq (tgt := 234) hx hb d_M_stretch_219 (by decide) (fun c_219 => absurd c_219 (by rw [c_76]; decide)) (fun c_219 => ?_)
                        refine lv_iload_n hx hb d_M_stretch_222 rfl (lv_at hl 4 rfl) ?_
                        refine lv_bipush (v := 69) hx hb d_M_stretch_223 (by decide) ?_
                        refine lv_icmp_eq (tgt := 234) hx hb d_M_stretch_225 (by decide) (fun c_225 => absurd c_225 (by rw [c_76]; decide)) (fun c_225 => ?_)
                        refine lv_iload_n hx hb d_M_stretch_228 rfl (lv_at hl 4 rfl) ?_
                        refine lv_bipush (v := 72) hx hb d_M_stretch_229 (by decide) ?_
                        refine lv_icmp_ne (tgt := 241) hx hb d_M_stretch_231 (by decide) (fun c_231 => ?_) (fun c_231 => absurd c_231 (by rw [c_76]; decide))
                        refine lv_aload_n hx hb d_M_stretch_241 rfl (lv_at hl 3 rfl) ?_
                        refine lv_iload_n hx hb d_M_stretch_242 rfl (lv_at hl 4 rfl) ?_
                        refine roSi (As := [.int x0]) (rest := [.ref b_x]) ⟨hx, hb, hml, hown, hts⟩ (mc_StepMachineModel_longKind l D tc tb z0 x0) (va_cwS 1 hts (goodS a_827 a_828 a_10 a_829) rfl rfl rfl hs_M_longKind ⟨Nat.le_of_ble_eq_true rfl, Nat.le_of_ble_eq_true rfl⟩) (hP.sub [] rfl) hK (hB.kept hS hZ) rfl hl.1 rfl (Nat.le_of_ble_eq_true rfl) d_M_stretch_243 ⟨Nat.zero_le _, Nat.zero_le _⟩ ?_
                        refine roVi (As := [.int (mF_StepMachineModel_longKind x0)]) (rest := []) ⟨hx, hb, hml, hown, hts⟩ (mc_StepMachineModel_put l D tc tb z0 b_x b_row b_part b_mem b_mrk b_sf b_ss b_sr b_h b_r b_in b_out b_k m_on m_hc m_pc m_giv m_tak m_put m_st m_cu m_va m_sp m_un m_kc m_kn m_by m_kd m_tg m_ju (upd m_part (1 : Int32).toNatClampNeg 2) (mF_StepMachineModel_longKind x0) (lk_rng _)) (cwV 1 hts (goodV a_830 a_831 a_934 a_10 a_832) rfl rfl rfl hv_M_put ⟨Nat.le_of_ble_eq_true rfl, Nat.le_of_ble_eq_true rfl⟩) (hP.sub [0, 1, 2] rfl) hK (hB.kept hS hZ) rfl rfl rfl hl.1 rfl (Nat.le_of_ble_eq_true rfl) d_M_stretch_246 ⟨Nat.zero_le _, Nat.zero_le _⟩ ?_
                        exact W.iret (v := (mF_StepMachineModel_put (upd m_part (1 : Int32).toNatClampNeg 2) (mF_StepMachineModel_longKind x0))) hx hb hr (fun t ht hW => ⟨⟨_, (upd m_part (1 : Int32).toNatClampNeg 2), rfl, by rw [mF_StepMachineModel_stretch, if_neg c_10, if_neg c_16, if_neg c_22, if_neg c_28, if_neg c_34, if_neg c_40, if_neg c_46, if_neg c_52, if_neg c_64, if_neg c_70, if_pos c_76], by rw [ht]; exact hP, va_K.moved hW.alike hK, hD⟩, hS.F ht⟩) hS.2.2 d_M_stretch_249
                      · skip
                        refine lv_iload_n hx hb d_M_stretch_79 rfl (lv_at hl 3 rfl) ?_
                        refine lv_bipush (v := 74) hx hb d_M_stretch_80 (by decide) ?_
                        refine lv_icmp_ne (tgt := 89) hx hb d_M_stretch_82 (by decide) (fun c_82 => ?_) (fun c_82 => ?_)
                        · skip
                          refine lv_iconst (v := 0) hx hb d_M_stretch_89 (by decide) ?_
                          refine lv_istore (lv' := [(4, .int 0), (3, .int 0), (2, .int (m_part (0 : Int32).toNatClampNeg)), (0, .ref b_x), (1, .int x0)]) hx hb d_M_stretch_90 hl (by decide) rfl (fun ls hl => ?_)
                          refine lv_iload_n hx hb d_M_stretch_92 rfl (lv_at hl 1 rfl) ?_
                          refine lv_if_eq (tgt := 103) hx hb d_M_stretch_93 (by decide) (fun c_93 => ?_) (fun c_93 => absurd c_93 (by decide))
                          refine lv_iload hx hb d_M_stretch_103 (lv_at hl 0 rfl) ?_
                          refine lv_if_eq (tgt := 115) hx hb d_M_stretch_105 (by decide) (fun c_105 => ?_) (fun c_105 => absurd c_105 (by decide))
                          refine lv_iload_n hx hb d_M_stretch_115 rfl (lv_at hl 4 rfl) ?_
                          refine lv_bipush (v := 51) hx hb d_M_stretch_116 (by decide) ?_
                          refine lv_icmp_eq (tgt := 133) hx hb d_M_stretch_118 (by decide) (fun c_118 => ?_) (fun c_118 => ?_)
                          · skip
                            refine lv_aload_n hx hb d_M_stretch_133 rfl (lv_at hl 3 rfl) ?_
                            refine va_get (D := D) (ci := 9) (v := .ref b_part) (C := "StepMachineModel") (T := TX9) (N := 29) hx hb hts inU_9 hown hK hP 0 rfl rfl 1 (by decide) (hts _ a_634) (fun _ h9 => h9) rfl d_M_stretch_134 ?_
                            refine lv_iconst (v := 1) hx hb d_M_stretch_137 (by decide) ?_
                            refine lv_iconst (v := 0) hx hb d_M_stretch_138 (by decide) ?_
                            refine va_iast hx hb hK hP hD hS 2 0 rfl rfl (vp_in_nI (n := 1) (N := 4) (by decide) (by decide)) d_M_stretch_139 (fun H locs hP hD hS => ?_)
                            have hP : va_P D vwCl [(b_x, .inr (9, [.ref b_row, .ref b_part, .ref b_mem, .ref b_mrk, .ref b_sf, .ref b_ss, .ref b_sr, .int m_on, .ref b_h, .int m_hc, .ref b_r, .int m_pc, .ref b_in, .int m_giv, .int m_tak, .ref b_out, .int m_put, .int m_st, .int m_cu, .int m_va, .int m_sp, .int m_un, .ref b_k, .int m_kc, .int m_kn, .int m_by, .int m_kd, .int m_tg, .int m_ju])), (b_row, .inl (tc 0, 2400, .inl rowT)), (b_part, .inl (tc 0, 4, .inl (upd m_part (1 : Int32).toNatClampNeg 0)))] H := hP
                            have hD : va_D A [(b_x, .inr (9, [.ref b_row, .ref b_part, .ref b_mem, .ref b_mrk, .ref b_sf, .ref b_ss, .ref b_sr, .int m_on, .ref b_h, .int m_hc, .ref b_r, .int m_pc, .ref b_in, .int m_giv, .int m_tak, .ref b_out, .int m_put, .int m_st, .int m_cu, .int m_va, .int m_sp, .int m_un, .ref b_k, .int m_kc, .int m_kn, .int m_by, .int m_kd, .int m_tg, .int m_ju])), (b_row, .inl (tc 0, 2400, .inl rowT)), (b_part, .inl (tc 0, 4, .inl (upd m_part (1 : Int32).toNatClampNeg 0)))] := hD
                            refine lv_iload_n hx hb d_M_stretch_140 rfl (lv_at hl 4 rfl) ?_
                            refine lv_bipush (v := 51) hx hb d_M_stretch_141 (by decide) ?_
                            refine lv_icmp_eq (tgt := 158) hx hb d_M_stretch_143 (by decide) (fun c_143 => ?_) (fun c_143 => absurd c_118 c_143)
                            refine lv_aload_n hx hb d_M_stretch_158 rfl (lv_at hl 3 rfl) ?_
                            refine va_get (D := D) (ci := 9) (v := .ref b_part) (C := "StepMachineModel") (T := TX9) (N := 29) hx hb hts inU_9 hown hK hP 0 rfl rfl 1 (by decide) (hts _ a_634) (fun _ h9 => h9) rfl d_M_stretch_159 ?_
                            refine lv_iconst (v := 0) hx hb d_M_stretch_162 (by decide) ?_
                            refine lv_iconst (v := 0) hx hb d_M_stretch_163 (by decide) ?_
                            refine va_iast hx hb hK hP hD hS 2 0 rfl rfl (vp_in_nI (n := 0) (N := 4) (by decide) (by decide)) d_M_stretch_164 (fun H locs hP hD hS => ?_)
                            have hP : va_P D vwCl [(b_x, .inr (9, [.ref b_row, .ref b_part, .ref b_mem, .ref b_mrk, .ref b_sf, .ref b_ss, .ref b_sr, .int m_on, .ref b_h, .int m_hc, .ref b_r, .int m_pc, .ref b_in, .int m_giv, .int m_tak, .ref b_out, .int m_put, .int m_st, .int m_cu, .int m_va, .int m_sp, .int m_un, .ref b_k, .int m_kc, .int m_kn, .int m_by, .int m_kd, .int m_tg, .int m_ju])), (b_row, .inl (tc 0, 2400, .inl rowT)), (b_part, .inl (tc 0, 4, .inl (upd (upd m_part (1 : Int32).toNatClampNeg 0) (0 : Int32).toNatClampNeg 0)))] H := hP
                            have hD : va_D A [(b_x, .inr (9, [.ref b_row, .ref b_part, .ref b_mem, .ref b_mrk, .ref b_sf, .ref b_ss, .ref b_sr, .int m_on, .ref b_h, .int m_hc, .ref b_r, .int m_pc, .ref b_in, .int m_giv, .int m_tak, .ref b_out, .int m_put, .int m_st, .int m_cu, .int m_va, .int m_sp, .int m_un, .ref b_k, .int m_kc, .int m_kn, .int m_by, .int m_kd, .int m_tg, .int m_ju])), (b_row, .inl (tc 0, 2400, .inl rowT)), (b_part, .inl (tc 0, 4, .inl (upd (upd m_part (1 : Int32).toNatClampNeg 0) (0 : Int32).toNatClampNeg 0)))] := hD
                            refine lv_iload_n hx hb d_M_stretch_165 rfl (lv_at hl 4 rfl) ?_
                            refine lv_bipush (v := 53) hx hb d_M_stretch_166 (by decide) ?_
                            refine lv_icmp_eq (tgt := 177) hx hb d_M_stretch_168 (by decide) (fun c_168 => absurd c_168 (by rw [c_118]; decide)) (fun c_168 => ?_)
                            refine lv_iload_n hx hb d_M_stretch_171 rfl (lv_at hl 4 rfl) ?_
                            refine lv_bipush (v := 72) hx hb d_M_stretch_172 (by decide) ?_
                            refine lv_icmp_ne (tgt := 184) hx hb d_M_stretch_174 (by decide) (fun c_174 => ?_) (fun c_174 => absurd c_174 (by rw [c_118]; decide))
                            refine lv_iload_n hx hb d_M_stretch_184 rfl (lv_at hl 4 rfl) ?_
                            refine lv_bipush (v := 55) hx hb d_M_stretch_185 (by decide) ?_
                            refine lv_icmp_ne (tgt := 197) hx hb d_M_stretch_187 (by decide) (fun c_187 => ?_) (fun c_187 => absurd c_187 c_70)
                            refine lv_iload_n hx hb d_M_stretch_197 rfl (lv_at hl 4 rfl) ?_
                            refine lv_bipush (v := 65) hx hb d_M_stretch_198 (by decide) ?_
                            refine lv_icmp_eq (tgt := 209) hx hb d_M_stretch_200 (by decide) (fun c_200 => absurd c_200 (by rw [c_118]; decide)) (fun c_200 => ?_)
                            refine lv_iload_n hx hb d_M_stretch_203 rfl (lv_at hl 4 rfl) ?_
                            refine lv_bipush (v := 66) hx hb d_M_stretch_204 (by decide) ?_
                            refine lv_icmp_ne (tgt := 216) hx hb d_M_stretch_206 (by decide) (fun c_206 => ?_) (fun c_206 => absurd c_206 (by rw [c_118]; decide))
                            refine lv_iload_n hx hb d_M_stretch_216 rfl (lv_at hl 4 rfl) ?_
                            refine lv_bipush (v := 51) hx hb d_M_stretch_217 (by decide) ?_
                            refine lv_icmp_eq (tgt := 234) hx hb d_M_stretch_219 (by decide) (fun c_219 => ?_) (fun c_219 => absurd c_118 c_219)
                            refine lv_aload_n hx hb d_M_stretch_234 rfl (lv_at hl 3 rfl) ?_
                            refine va_get (D := D) (ci := 9) (v := .ref b_part) (C := "StepMachineModel") (T := TX9) (N := 29) hx hb hts inU_9 hown hK hP 0 rfl rfl 1 (by decide) (hts _ a_634) (fun _ h9 => h9) rfl d_M_stretch_235 ?_
                            refine lv_iconst (v := 3) hx hb d_M_stretch_238 (by decide) ?_
                            refine lv_iconst (v := 0) hx hb d_M_stretch_239 (by decide) ?_
                            refine va_iast hx hb hK hP hD hS 2 0 rfl rfl (vp_in_nI (n := 3) (N := 4) (by decide) (by decide)) d_M_stretch_240 (fun H locs hP hD hS => ?_)
                            have hP : va_P D vwCl [(b_x, .inr (9, [.ref b_row, .ref b_part, .ref b_mem, .ref b_mrk, .ref b_sf, .ref b_ss, .ref b_sr, .int m_on, .ref b_h, .int m_hc, .ref b_r, .int m_pc, .ref b_in, .int m_giv, .int m_tak, .ref b_out, .int m_put, .int m_st, .int m_cu, .int m_va, .int m_sp, .int m_un, .ref b_k, .int m_kc, .int m_kn, .int m_by, .int m_kd, .int m_tg, .int m_ju])), (b_row, .inl (tc 0, 2400, .inl rowT)), (b_part, .inl (tc 0, 4, .inl (upd (upd (upd m_part (1 : Int32).toNatClampNeg 0) (0 : Int32).toNatClampNeg 0) (3 : Int32).toNatClampNeg 0)))] H := hP
                            have hD : va_D A [(b_x, .inr (9, [.ref b_row, .ref b_part, .ref b_mem, .ref b_mrk, .ref b_sf, .ref b_ss, .ref b_sr, .int m_on, .ref b_h, .int m_hc, .ref b_r, .int m_pc, .ref b_in, .int m_giv, .int m_tak, .ref b_out, .int m_put, .int m_st, .int m_cu, .int m_va, .int m_sp, .int m_un, .ref b_k, .int m_kc, .int m_kn, .int m_by, .int m_kd, .int m_tg, .int m_ju])), (b_row, .inl (tc 0, 2400, .inl rowT)), (b_part, .inl (tc 0, 4, .inl (upd (upd (upd m_part (1 : Int32).toNatClampNeg 0) (0 : Int32).toNatClampNeg 0) (3 : Int32).toNatClampNeg 0)))] := hD
                            refine lv_aload_n hx hb d_M_stretch_241 rfl (lv_at hl 3 rfl) ?_
                            refine lv_iload_n hx hb d_M_stretch_242 rfl (lv_at hl 4 rfl) ?_
                            refine roSi (As := [.int x0]) (rest := [.ref b_x]) ⟨hx, hb, hml, hown, hts⟩ (mc_StepMachineModel_longKind l D tc tb z0 x0) (va_cwS 1 hts (goodS a_827 a_828 a_10 a_829) rfl rfl rfl hs_M_longKind ⟨Nat.le_of_ble_eq_true rfl, Nat.le_of_ble_eq_true rfl⟩) (hP.sub [] rfl) hK (hB.kept hS hZ) rfl hl.1 rfl (Nat.le_of_ble_eq_true rfl) d_M_stretch_243 ⟨Nat.zero_le _, Nat.zero_le _⟩ ?_
                            refine roVi (As := [.int (mF_StepMachineModel_longKind x0)]) (rest := []) ⟨hx, hb, hml, hown, hts⟩ (mc_StepMachineModel_put l D tc tb z0 b_x b_row b_part b_mem b_mrk b_sf b_ss b_sr b_h b_r b_in b_out b_k m_on m_hc m_pc m_giv m_tak m_put m_st m_cu m_va m_sp m_un m_kc m_kn m_by m_kd m_tg m_ju (upd (upd (upd m_part (1 : Int32).toNatClampNeg 0) (0 : Int32).toNatClampNeg 0) (3 : Int32).toNatClampNeg 0) (mF_StepMachineModel_longKind x0) (lk_rng _)) (cwV 1 hts (goodV a_830 a_831 a_934 a_10 a_832) rfl rfl rfl hv_M_put ⟨Nat.le_of_ble_eq_true rfl, Nat.le_of_ble_eq_true rfl⟩) (hP.sub [0, 1, 2] rfl) hK (hB.kept hS hZ) rfl rfl rfl hl.1 rfl (Nat.le_of_ble_eq_true rfl) d_M_stretch_246 ⟨Nat.zero_le _, Nat.zero_le _⟩ ?_
                            exact W.iret (v := (mF_StepMachineModel_put (upd (upd (upd m_part (1 : Int32).toNatClampNeg 0) (0 : Int32).toNatClampNeg 0) (3 : Int32).toNatClampNeg 0) (mF_StepMachineModel_longKind x0))) hx hb hr (fun t ht hW => ⟨⟨_, (upd (upd (upd m_part (1 : Int32).toNatClampNeg 0) (0 : Int32).toNatClampNeg 0) (3 : Int32).toNatClampNeg 0), rfl, by rw [mF_StepMachineModel_stretch, if_neg c_10, if_neg c_16, if_neg c_22, if_neg c_28, if_neg c_34, if_neg c_40, if_neg c_46, if_neg c_52, if_neg c_64, if_neg c_70, if_neg c_76, if_neg c_82, if_pos c_118], by rw [ht]; exact hP, va_K.moved hW.alike hK, hD⟩, hS.F ht⟩) hS.2.2 d_M_stretch_249
                          · skip
                            refine lv_iload_n hx hb d_M_stretch_121 rfl (lv_at hl 4 rfl) ?_
                            refine lv_bipush (v := 54) hx hb d_M_stretch_122 (by decide) ?_
                            refine lv_icmp_eq (tgt := 133) hx hb d_M_stretch_124 (by decide) (fun c_124 => ?_) (fun c_124 => ?_)
                            · skip
                              refine lv_aload_n hx hb d_M_stretch_133 rfl (lv_at hl 3 rfl) ?_
                              refine va_get (D := D) (ci := 9) (v := .ref b_part) (C := "StepMachineModel") (T := TX9) (N := 29) hx hb hts inU_9 hown hK hP 0 rfl rfl 1 (by decide) (hts _ a_634) (fun _ h9 => h9) rfl d_M_stretch_134 ?_
                              refine lv_iconst (v := 1) hx hb d_M_stretch_137 (by decide) ?_
                              refine lv_iconst (v := 0) hx hb d_M_stretch_138 (by decide) ?_
                              refine va_iast hx hb hK hP hD hS 2 0 rfl rfl (vp_in_nI (n := 1) (N := 4) (by decide) (by decide)) d_M_stretch_139 (fun H locs hP hD hS => ?_)
                              have hP : va_P D vwCl [(b_x, .inr (9, [.ref b_row, .ref b_part, .ref b_mem, .ref b_mrk, .ref b_sf, .ref b_ss, .ref b_sr, .int m_on, .ref b_h, .int m_hc, .ref b_r, .int m_pc, .ref b_in, .int m_giv, .int m_tak, .ref b_out, .int m_put, .int m_st, .int m_cu, .int m_va, .int m_sp, .int m_un, .ref b_k, .int m_kc, .int m_kn, .int m_by, .int m_kd, .int m_tg, .int m_ju])), (b_row, .inl (tc 0, 2400, .inl rowT)), (b_part, .inl (tc 0, 4, .inl (upd m_part (1 : Int32).toNatClampNeg 0)))] H := hP
                              have hD : va_D A [(b_x, .inr (9, [.ref b_row, .ref b_part, .ref b_mem, .ref b_mrk, .ref b_sf, .ref b_ss, .ref b_sr, .int m_on, .ref b_h, .int m_hc, .ref b_r, .int m_pc, .ref b_in, .int m_giv, .int m_tak, .ref b_out, .int m_put, .int m_st, .int m_cu, .int m_va, .int m_sp, .int m_un, .ref b_k, .int m_kc, .int m_kn, .int m_by, .int m_kd, .int m_tg, .int m_ju])), (b_row, .inl (tc 0, 2400, .inl rowT)), (b_part, .inl (tc 0, 4, .inl (upd m_part (1 : Int32).toNatClampNeg 0)))] := hD
                              refine lv_iload_n hx hb d_M_stretch_140 rfl (lv_at hl 4 rfl) ?_
                              refine lv_bipush (v := 51) hx hb d_M_stretch_141 (by decide) ?_
                              refine lv_icmp_eq (tgt := 158) hx hb d_M_stretch_143 (by decide) (fun c_143 => absurd c_143 c_118) (fun c_143 => ?_)
                              refine lv_iload_n hx hb d_M_stretch_146 rfl (lv_at hl 4 rfl) ?_
                              refine lv_bipush (v := 64) hx hb d_M_stretch_147 (by decide) ?_
                              refine lv_icmp_eq (tgt := 158) hx hb d_M_stretch_149 (by decide) (fun c_149 => absurd c_149 (by rw [c_124]; decide)) (fun c_149 => ?_)
                              refine lv_iload_n hx hb d_M_stretch_152 rfl (lv_at hl 4 rfl) ?_
                              refine lv_bipush (v := 69) hx hb d_M_stretch_153 (by decide) ?_
                              refine lv_icmp_ne (tgt := 165) hx hb d_M_stretch_155 (by decide) (fun c_155 => ?_) (fun c_155 => absurd c_155 (by rw [c_124]; decide))
                              refine lv_iload_n hx hb d_M_stretch_165 rfl (lv_at hl 4 rfl) ?_
                              refine lv_bipush (v := 53) hx hb d_M_stretch_166 (by decide) ?_
                              refine lv_icmp_eq (tgt := 177) hx hb d_M_stretch_168 (by decide) (fun c_168 => absurd c_168 (by rw [c_124]; decide)) (fun c_168 => ?_)
                              refine lv_iload_n hx hb d_M_stretch_171 rfl (lv_at hl 4 rfl) ?_
                              refine lv_bipush (v := 72) hx hb d_M_stretch_172 (by decide) ?_
                              refine lv_icmp_ne (tgt := 184) hx hb d_M_stretch_174 (by decide) (fun c_174 => ?_) (fun c_174 => absurd c_174 (by rw [c_124]; decide))
                              refine lv_iload_n hx hb d_M_stretch_184 rfl (lv_at hl 4 rfl) ?_
                              refine lv_bipush (v := 55) hx hb d_M_stretch_185 (by decide) ?_
                              refine lv_icmp_ne (tgt := 197) hx hb d_M_stretch_187 (by decide) (fun c_187 => ?_) (fun c_187 => absurd c_187 c_70)
                              refine lv_iload_n hx hb d_M_stretch_197 rfl (lv_at hl 4 rfl) ?_
                              refine lv_bipush (v := 65) hx hb d_M_stretch_198 (by decide) ?_
                              refine lv_icmp_eq (tgt := 209) hx hb d_M_stretch_200 (by decide) (fun c_200 => absurd c_200 (by rw [c_124]; decide)) (fun c_200 => ?_)
                              refine lv_iload_n hx hb d_M_stretch_203 rfl (lv_at hl 4 rfl) ?_
                              refine lv_bipush (v := 66) hx hb d_M_stretch_204 (by decide) ?_
                              refine lv_icmp_ne (tgt := 216) hx hb d_M_stretch_206 (by decide) (fun c_206 => ?_) (fun c_206 => absurd c_206 (by rw [c_124]; decide))
                              refine lv_iload_n hx hb d_M_stretch_216 rfl (lv_at hl 4 rfl) ?_
                              refine lv_bipush (v := 51) hx hb d_M_stretch_217 (by decide) ?_
                              refine lv_icmp_eq (tgt := 234) hx hb d_M_stretch_219 (by decide) (fun c_219 => absurd c_219 c_118) (fun c_219 => ?_)
                              refine lv_iload_n hx hb d_M_stretch_222 rfl (lv_at hl 4 rfl) ?_
                              refine lv_bipush (v := 69) hx hb d_M_stretch_223 (by decide) ?_
                              refine lv_icmp_eq (tgt := 234) hx hb d_M_stretch_225 (by decide) (fun c_225 => absurd c_225 (by rw [c_124]; decide)) (fun c_225 => ?_)
                              refine lv_iload_n hx hb d_M_stretch_228 rfl (lv_at hl 4 rfl) ?_
                              refine lv_bipush (v := 72) hx hb d_M_stretch_229 (by decide) ?_
                              refine lv_icmp_ne (tgt := 241) hx hb d_M_stretch_231 (by decide) (fun c_231 => ?_) (fun c_231 => absurd c_231 (by rw [c_124]; decide))
                              refine lv_aload_n hx hb d_M_stretch_241 rfl (lv_at hl 3 rfl) ?_
                              refine lv_iload_n hx hb d_M_stretch_242 rfl (lv_at hl 4 rfl) ?_
                              refine roSi (As := [.int x0]) (rest := [.ref b_x]) ⟨hx, hb, hml, hown, hts⟩ (mc_StepMachineModel_longKind l D tc tb z0 x0) (va_cwS 1 hts (goodS a_827 a_828 a_10 a_829) rfl rfl rfl hs_M_longKind ⟨Nat.le_of_ble_eq_true rfl, Nat.le_of_ble_eq_true rfl⟩) (hP.sub [] rfl) hK (hB.kept hS hZ) rfl hl.1 rfl (Nat.le_of_ble_eq_true rfl) d_M_stretch_243 ⟨Nat.zero_le _, Nat.zero_le _⟩ ?_
                              refine roVi (As := [.int (mF_StepMachineModel_longKind x0)]) (rest := []) ⟨hx, hb, hml, hown, hts⟩ (mc_StepMachineModel_put l D tc tb z0 b_x b_row b_part b_mem b_mrk b_sf b_ss b_sr b_h b_r b_in b_out b_k m_on m_hc m_pc m_giv m_tak m_put m_st m_cu m_va m_sp m_un m_kc m_kn m_by m_kd m_tg m_ju (upd m_part (1 : Int32).toNatClampNeg 0) (mF_StepMachineModel_longKind x0) (lk_rng _)) (cwV 1 hts (goodV a_830 a_831 a_934 a_10 a_832) rfl rfl rfl hv_M_put ⟨Nat.le_of_ble_eq_true rfl, Nat.le_of_ble_eq_true rfl⟩) (hP.sub [0, 1, 2] rfl) hK (hB.kept hS hZ) rfl rfl rfl hl.1 rfl (Nat.le_of_ble_eq_true rfl) d_M_stretch_246 ⟨Nat.zero_le _, Nat.zero_le _⟩ ?_
                              exact W.iret (v := (mF_StepMachineModel_put (upd m_part (1 : Int32).toNatClampNeg 0) (mF_StepMachineModel_longKind x0))) hx hb hr (fun t ht hW => ⟨⟨_, (upd m_part (1 : Int32).toNatClampNeg 0), rfl, by rw [mF_StepMachineModel_stretch, if_neg c_10, if_neg c_16, if_neg c_22, if_neg c_28, if_neg c_34, if_neg c_40, if_neg c_46, if_neg c_52, if_neg c_64, if_neg c_70, if_neg c_76, if_neg c_82, if_neg c_118, if_pos c_124], by rw [ht]; exact hP, va_K.moved hW.alike hK, hD⟩, hS.F ht⟩) hS.2.2 d_M_stretch_249
                            · skip
                              refine lv_iload_n hx hb d_M_stretch_127 rfl (lv_at hl 4 rfl) ?_
                              refine lv_bipush (v := 70) hx hb d_M_stretch_128 (by decide) ?_
                              refine lv_icmp_ne (tgt := 140) hx hb d_M_stretch_130 (by decide) (fun c_130 => ?_) (fun c_130 => ?_)
                              · skip
                                refine lv_iload_n hx hb d_M_stretch_140 rfl (lv_at hl 4 rfl) ?_
                                refine lv_bipush (v := 51) hx hb d_M_stretch_141 (by decide) ?_
                                refine lv_icmp_eq (tgt := 158) hx hb d_M_stretch_143 (by decide) (fun c_143 => absurd c_143 c_118) (fun c_143 => ?_)
                                refine lv_iload_n hx hb d_M_stretch_146 rfl (lv_at hl 4 rfl) ?_
                                refine lv_bipush (v := 64) hx hb d_M_stretch_147 (by decide) ?_
                                refine lv_icmp_eq (tgt := 158) hx hb d_M_stretch_149 (by decide) (fun c_149 => ?_) (fun c_149 => ?_)
                                · skip
                                  refine lv_aload_n hx hb d_M_stretch_158 rfl (lv_at hl 3 rfl) ?_
                                  refine va_get (D := D) (ci := 9) (v := .ref b_part) (C := "StepMachineModel") (T := TX9) (N := 29) hx hb hts inU_9 hown hK hP 0 rfl rfl 1 (by decide) (hts _ a_634) (fun _ h9 => h9) rfl d_M_stretch_159 ?_
                                  refine lv_iconst (v := 0) hx hb d_M_stretch_162 (by decide) ?_
                                  refine lv_iconst (v := 0) hx hb d_M_stretch_163 (by decide) ?_
                                  refine va_iast hx hb hK hP hD hS 2 0 rfl rfl (vp_in_nI (n := 0) (N := 4) (by decide) (by decide)) d_M_stretch_164 (fun H locs hP hD hS => ?_)
                                  have hP : va_P D vwCl [(b_x, .inr (9, [.ref b_row, .ref b_part, .ref b_mem, .ref b_mrk, .ref b_sf, .ref b_ss, .ref b_sr, .int m_on, .ref b_h, .int m_hc, .ref b_r, .int m_pc, .ref b_in, .int m_giv, .int m_tak, .ref b_out, .int m_put, .int m_st, .int m_cu, .int m_va, .int m_sp, .int m_un, .ref b_k, .int m_kc, .int m_kn, .int m_by, .int m_kd, .int m_tg, .int m_ju])), (b_row, .inl (tc 0, 2400, .inl rowT)), (b_part, .inl (tc 0, 4, .inl (upd m_part (0 : Int32).toNatClampNeg 0)))] H := hP
                                  have hD : va_D A [(b_x, .inr (9, [.ref b_row, .ref b_part, .ref b_mem, .ref b_mrk, .ref b_sf, .ref b_ss, .ref b_sr, .int m_on, .ref b_h, .int m_hc, .ref b_r, .int m_pc, .ref b_in, .int m_giv, .int m_tak, .ref b_out, .int m_put, .int m_st, .int m_cu, .int m_va, .int m_sp, .int m_un, .ref b_k, .int m_kc, .int m_kn, .int m_by, .int m_kd, .int m_tg, .int m_ju])), (b_row, .inl (tc 0, 2400, .inl rowT)), (b_part, .inl (tc 0, 4, .inl (upd m_part (0 : Int32).toNatClampNeg 0)))] := hD
                                  refine lv_iload_n hx hb d_M_stretch_165 rfl (lv_at hl 4 rfl) ?_
                                  refine lv_bipush (v := 53) hx hb d_M_stretch_166 (by decide) ?_
                                  refine lv_icmp_eq (tgt := 177) hx hb d_M_stretch_168 (by decide) (fun c_168 => absurd c_168 (by rw [c_149]; decide)) (fun c_168 => ?_)
                                  refine lv_iload_n hx hb d_M_stretch_171 rfl (lv_at hl 4 rfl) ?_
                                  refine lv_bipush (v := 72) hx hb d_M_stretch_172 (by decide) ?_
                                  refine lv_icmp_ne (tgt := 184) hx hb d_M_stretch_174 (by decide) (fun c_174 => ?_) (fun c_174 => absurd c_174 (by rw [c_149]; decide))
                                  refine lv_iload_n hx hb d_M_stretch_184 rfl (lv_at hl 4 rfl) ?_
                                  refine lv_bipush (v := 55) hx hb d_M_stretch_185 (by decide) ?_
                                  refine lv_icmp_ne (tgt := 197) hx hb d_M_stretch_187 (by decide) (fun c_187 => ?_) (fun c_187 => absurd c_187 c_70)
                                  refine lv_iload_n hx hb d_M_stretch_197 rfl (lv_at hl 4 rfl) ?_
                                  refine lv_bipush (v := 65) hx hb d_M_stretch_198 (by decide) ?_
                                  refine lv_icmp_eq (tgt := 209) hx hb d_M_stretch_200 (by decide) (fun c_200 => absurd c_200 (by rw [c_149]; decide)) (fun c_200 => ?_)
                                  refine lv_iload_n hx hb d_M_stretch_203 rfl (lv_at hl 4 rfl) ?_
                                  refine lv_bipush (v := 66) hx hb d_M_stretch_204 (by decide) ?_
                                  refine lv_icmp_ne (tgt := 216) hx hb d_M_stretch_206 (by decide) (fun c_206 => ?_) (fun c_206 => absurd c_206 (by rw [c_149]; decide))
                                  refine lv_iload_n hx hb d_M_stretch_216 rfl (lv_at hl 4 rfl) ?_
                                  refine lv_bipush (v := 51) hx hb d_M_stretch_217 (by decide) ?_
                                  refine lv_icmp_eq (tgt := 234) hx hb d_M_stretch_219 (by decide) (fun c_219 => absurd c_219 c_118) (fun c_219 => ?_)
                                  refine lv_iload_n hx hb d_M_stretch_222 rfl (lv_at hl 4 rfl) ?_
                                  refine lv_bipush (v := 69) hx hb d_M_stretch_223 (by decide) ?_
                                  refine lv_icmp_eq (tgt := 234) hx hb d_M_stretch_225 (by decide) (fun c_225 => absurd c_225 (by rw [c_149]; decide)) (fun c_225 => ?_)
                                  refine lv_iload_n hx hb d_M_stretch_228 rfl (lv_at hl 4 rfl) ?_
                                  refine lv_bipush (v := 72) hx hb d_M_stretch_229 (by decide) ?_
                                  refine lv_icmp_ne (tgt := 241) hx hb d_M_stretch_231 (by decide) (fun c_231 => ?_) (fun c_231 => absurd c_231 (by rw [c_149]; decide))
                                  refine lv_aload_n hx hb d_M_stretch_241 rfl (lv_at hl 3 rfl) ?_
                                  refine lv_iload_n hx hb d_M_stretch_242 rfl (lv_at hl 4 rfl) ?_
                                  refine roSi (As := [.int x0]) (rest := [.ref b_x]) ⟨hx, hb, hml, hown, hts⟩ (mc_StepMachineModel_longKind l D tc tb z0 x0) (va_cwS 1 hts (goodS a_827 a_828 a_10 a_829) rfl rfl rfl hs_M_longKind ⟨Nat.le_of_ble_eq_true rfl, Nat.le_of_ble_eq_true rfl⟩) (hP.sub [] rfl) hK (hB.kept hS hZ) rfl hl.1 rfl (Nat.le_of_ble_eq_true rfl) d_M_stretch_243 ⟨Nat.zero_le _, Nat.zero_le _⟩ ?_
                                  refine roVi (As := [.int (mF_StepMachineModel_longKind x0)]) (rest := []) ⟨hx, hb, hml, hown, hts⟩ (mc_StepMachineModel_put l D tc tb z0 b_x b_row b_part b_mem b_mrk b_sf b_ss b_sr b_h b_r b_in b_out b_k m_on m_hc m_pc m_giv m_tak m_put m_st m_cu m_va m_sp m_un m_kc m_kn m_by m_kd m_tg m_ju (upd m_part (0 : Int32).toNatClampNeg 0) (mF_StepMachineModel_longKind x0) (lk_rng _)) (cwV 1 hts (goodV a_830 a_831 a_934 a_10 a_832) rfl rfl rfl hv_M_put ⟨Nat.le_of_ble_eq_true rfl, Nat.le_of_ble_eq_true rfl⟩) (hP.sub [0, 1, 2] rfl) hK (hB.kept hS hZ) rfl rfl rfl hl.1 rfl (Nat.le_of_ble_eq_true rfl) d_M_stretch_246 ⟨Nat.zero_le _, Nat.zero_le _⟩ ?_
                                  exact W.iret (v := (mF_StepMachineModel_put (upd m_part (0 : Int32).toNatClampNeg 0) (mF_StepMachineModel_longKind x0))) hx hb hr (fun t ht hW => ⟨⟨_, (upd m_part (0 : Int32).toNatClampNeg 0), rfl, by rw [mF_StepMachineModel_stretch, if_neg c_10, if_neg c_16, if_neg c_22, if_neg c_28, if_neg c_34, if_neg c_40, if_neg c_46, if_neg c_52, if_neg c_64, if_neg c_70, if_neg c_76, if_neg c_82, if_neg c_118, if_neg c_124, if_neg c_130, if_pos c_149], by rw [ht]; exact hP, va_K.moved hW.alike hK, hD⟩, hS.F ht⟩) hS.2.2 d_M_stretch_249
                                · skip
                                  refine lv_iload_n hx hb d_M_stretch_152 rfl (lv_at hl 4 rfl) ?_
                                  refine lv_bipush (v := 69) hx hb d_M_stretch_153 (by decide) ?_
                                  refine lv_icmp_ne (tgt := 165) hx hb d_M_stretch_155 (by decide) (fun c_155 => ?_) (fun c_155 => ?_)
                                  · skip
                                    refine lv_iload_n hx hb d_M_stretch_165 rfl (lv_at hl 4 rfl) ?_
                                    refine lv_bipush (v := 53) hx hb d_M_stretch_166 (by decide) ?_
                                    refine lv_icmp_eq (tgt := 177) hx hb d_M_stretch_168 (by decide) (fun c_168 => ?_) (fun c_168 => ?_)
                                    · skip
                                      refine lv_aload_n hx hb d_M_stretch_177 rfl (lv_at hl 3 rfl) ?_
                                      refine va_get (D := D) (ci := 9) (v := .ref b_part) (C := "StepMachineModel") (T := TX9) (N := 29) hx hb hts inU_9 hown hK hP 0 rfl rfl 1 (by decide) (hts _ a_634) (fun _ h9 => h9) rfl d_M_stretch_178 ?_
                                      refine lv_iconst (v := 0) hx hb d_M_stretch_181 (by decide) ?_
                                      refine lv_iconst (v := 1) hx hb d_M_stretch_182 (by decide) ?_
                                      refine va_iast hx hb hK hP hD hS 2 0 rfl rfl (vp_in_nI (n := 0) (N := 4) (by decide) (by decide)) d_M_stretch_183 (fun H locs hP hD hS => ?_)
                                      have hP : va_P D vwCl [(b_x, .inr (9, [.ref b_row, .ref b_part, .ref b_mem, .ref b_mrk, .ref b_sf, .ref b_ss, .ref b_sr, .int m_on, .ref b_h, .int m_hc, .ref b_r, .int m_pc, .ref b_in, .int m_giv, .int m_tak, .ref b_out, .int m_put, .int m_st, .int m_cu, .int m_va, .int m_sp, .int m_un, .ref b_k, .int m_kc, .int m_kn, .int m_by, .int m_kd, .int m_tg, .int m_ju])), (b_row, .inl (tc 0, 2400, .inl rowT)), (b_part, .inl (tc 0, 4, .inl (upd m_part (0 : Int32).toNatClampNeg 1)))] H := hP
                                      have hD : va_D A [(b_x, .inr (9, [.ref b_row, .ref b_part, .ref b_mem, .ref b_mrk, .ref b_sf, .ref b_ss, .ref b_sr, .int m_on, .ref b_h, .int m_hc, .ref b_r, .int m_pc, .ref b_in, .int m_giv, .int m_tak, .ref b_out, .int m_put, .int m_st, .int m_cu, .int m_va, .int m_sp, .int m_un, .ref b_k, .int m_kc, .int m_kn, .int m_by, .int m_kd, .int m_tg, .int m_ju])), (b_row, .inl (tc 0, 2400, .inl rowT)), (b_part, .inl (tc 0, 4, .inl (upd m_part (0 : Int32).toNatClampNeg 1)))] := hD
                                      refine lv_iload_n hx hb d_M_stretch_184 rfl (lv_at hl 4 rfl) ?_
                                      refine lv_bipush (v := 55) hx hb d_M_stretch_185 (by decide) ?_
                                      refine lv_icmp_ne (tgt := 197) hx hb d_M_stretch_187 (by decide) (fun c_187 => ?_) (fun c_187 => absurd c_187 c_70)
                                      refine lv_iload_n hx hb d_M_stretch_197 rfl (lv_at hl 4 rfl) ?_
                                      refine lv_bipush (v := 65) hx hb d_M_stretch_198 (by decide) ?_
                                      refine lv_icmp_eq (tgt := 209) hx hb d_M_stretch_200 (by decide) (fun c_200 => absurd c_200 (by rw [c_168]; decide)) (fun c_200 => ?_)
                                      refine lv_iload_n hx hb d_M_stretch_203 rfl (lv_at hl 4 rfl) ?_
                                      refine lv_bipush (v := 66) hx hb d_M_stretch_204 (by decide) ?_
                                      refine lv_icmp_ne (tgt := 216) hx hb d_M_stretch_206 (by decide) (fun c_206 => ?_) (fun c_206 => absurd c_206 (by rw [c_168]; decide))
                                      refine lv_iload_n hx hb d_M_stretch_216 rfl (lv_at hl 4 rfl) ?_
                                      refine lv_bipush (v := 51) hx hb d_M_stretch_217 (by decide) ?_
                                      refine lv_icmp_eq (tgt := 234) hx hb d_M_stretch_219 (by decide) (fun c_219 => absurd c_219 c_118) (fun c_219 => ?_)
                                      refine lv_iload_n hx hb d_M_stretch_222 rfl (lv_at hl 4 rfl) ?_
                                      refine lv_bipush (v := 69) hx hb d_M_stretch_223 (by decide) ?_
                                      refine lv_icmp_eq (tgt := 234) hx hb d_M_stretch_225 (by decide) (fun c_225 => absurd c_225 c_155) (fun c_225 => ?_)
                                      refine lv_iload_n hx hb d_M_stretch_228 rfl (lv_at hl 4 rfl) ?_
                                      refine lv_bipush (v := 72) hx hb d_M_stretch_229 (by decide) ?_
                                      refine lv_icmp_ne (tgt := 241) hx hb d_M_stretch_231 (by decide) (fun c_231 => ?_) (fun c_231 => absurd c_231 (by rw [c_168]; decide))
                                      refine lv_aload_n hx hb d_M_stretch_241 rfl (lv_at hl 3 rfl) ?_
                                      refine lv_iload_n hx hb d_M_stretch_242 rfl (lv_at hl 4 rfl) ?_
                                      refine roSi (As := [.int x0]) (rest := [.ref b_x]) ⟨hx, hb, hml, hown, hts⟩ (mc_StepMachineModel_longKind l D tc tb z0 x0) (va_cwS 1 hts (goodS a_827 a_828 a_10 a_829) rfl rfl rfl hs_M_longKind ⟨Nat.le_of_ble_eq_true rfl, Nat.le_of_ble_eq_true rfl⟩) (hP.sub [] rfl) hK (hB.kept hS hZ) rfl hl.1 rfl (Nat.le_of_ble_eq_true rfl) d_M_stretch_243 ⟨Nat.zero_le _, Nat.zero_le _⟩ ?_
                                      refine roVi (As := [.int (mF_StepMachineModel_longKind x0)]) (rest := []) ⟨hx, hb, hml, hown, hts⟩ (mc_StepMachineModel_put l D tc tb z0 b_x b_row b_part b_mem b_mrk b_sf b_ss b_sr b_h b_r b_in b_out b_k m_on m_hc m_pc m_giv m_tak m_put m_st m_cu m_va m_sp m_un m_kc m_kn m_by m_kd m_tg m_ju (upd m_part (0 : Int32).toNatClampNeg 1) (mF_StepMachineModel_longKind x0) (lk_rng _)) (cwV 1 hts (goodV a_830 a_831 a_934 a_10 a_832) rfl rfl rfl hv_M_put ⟨Nat.le_of_ble_eq_true rfl, Nat.le_of_ble_eq_true rfl⟩) (hP.sub [0, 1, 2] rfl) hK (hB.kept hS hZ) rfl rfl rfl hl.1 rfl (Nat.le_of_ble_eq_true rfl) d_M_stretch_246 ⟨Nat.zero_le _, Nat.zero_le _⟩ ?_
                                      exact W.iret (v := (mF_StepMachineModel_put (upd m_part (0 : Int32).toNatClampNeg 1) (mF_StepMachineModel_longKind x0))) hx hb hr (fun t ht hW => ⟨⟨_, (upd m_part (0 : Int32).toNatClampNeg 1), rfl, by rw [mF_StepMachineModel_stretch, if_neg c_10, if_neg c_16, if_neg c_22, if_neg c_28, if_neg c_34, if_neg c_40, if_neg c_46, if_neg c_52, if_neg c_64, if_neg c_70, if_neg c_76, if_neg c_82, if_neg c_118, if_neg c_124, if_neg c_130, if_neg c_149, if_neg c_155, if_pos c_168], by rw [ht]; exact hP, va_K.moved hW.alike hK, hD⟩, hS.F ht⟩) hS.2.2 d_M_stretch_249
                                    · skip
                                      refine lv_iload_n hx hb d_M_stretch_171 rfl (lv_at hl 4 rfl) ?_
                                      refine lv_bipush (v := 72) hx hb d_M_stretch_172 (by decide) ?_
                                      refine lv_icmp_ne (tgt := 184) hx hb d_M_stretch_174 (by decide) (fun c_174 => ?_) (fun c_174 => ?_)
                                      · skip
                                        refine lv_iload_n hx hb d_M_stretch_184 rfl (lv_at hl 4 rfl) ?_
                                        refine lv_bipush (v := 55) hx hb d_M_stretch_185 (by decide) ?_
                                        refine lv_icmp_ne (tgt := 197) hx hb d_M_stretch_187 (by decide) (fun c_187 => ?_) (fun c_187 => absurd c_187 c_70)
                                        refine lv_iload_n hx hb d_M_stretch_197 rfl (lv_at hl 4 rfl) ?_
                                        refine lv_bipush (v := 65) hx hb d_M_stretch_198 (by decide) ?_
                                        refine lv_icmp_eq (tgt := 209) hx hb d_M_stretch_200 (by decide) (fun c_200 => ?_) (fun c_200 => ?_)
                                        · skip
                                          refine lv_aload_n hx hb d_M_stretch_209 rfl (lv_at hl 3 rfl) ?_
                                          refine va_get (D := D) (ci := 9) (v := .ref b_part) (C := "StepMachineModel") (T := TX9) (N := 29) hx hb hts inU_9 hown hK hP 0 rfl rfl 1 (by decide) (hts _ a_634) (fun _ h9 => h9) rfl d_M_stretch_210 ?_
                                          refine lv_iconst (v := 2) hx hb d_M_stretch_213 (by decide) ?_
                                          refine lv_iconst (v := 0) hx hb d_M_stretch_214 (by decide) ?_
                                          refine va_iast hx hb hK hP hD hS 2 0 rfl rfl (vp_in_nI (n := 2) (N := 4) (by decide) (by decide)) d_M_stretch_215 (fun H locs hP hD hS => ?_)
                                          have hP : va_P D vwCl [(b_x, .inr (9, [.ref b_row, .ref b_part, .ref b_mem, .ref b_mrk, .ref b_sf, .ref b_ss, .ref b_sr, .int m_on, .ref b_h, .int m_hc, .ref b_r, .int m_pc, .ref b_in, .int m_giv, .int m_tak, .ref b_out, .int m_put, .int m_st, .int m_cu, .int m_va, .int m_sp, .int m_un, .ref b_k, .int m_kc, .int m_kn, .int m_by, .int m_kd, .int m_tg, .int m_ju])), (b_row, .inl (tc 0, 2400, .inl rowT)), (b_part, .inl (tc 0, 4, .inl (upd m_part (2 : Int32).toNatClampNeg 0)))] H := hP
                                          have hD : va_D A [(b_x, .inr (9, [.ref b_row, .ref b_part, .ref b_mem, .ref b_mrk, .ref b_sf, .ref b_ss, .ref b_sr, .int m_on, .ref b_h, .int m_hc, .ref b_r, .int m_pc, .ref b_in, .int m_giv, .int m_tak, .ref b_out, .int m_put, .int m_st, .int m_cu, .int m_va, .int m_sp, .int m_un, .ref b_k, .int m_kc, .int m_kn, .int m_by, .int m_kd, .int m_tg, .int m_ju])), (b_row, .inl (tc 0, 2400, .inl rowT)), (b_part, .inl (tc 0, 4, .inl (upd m_part (2 : Int32).toNatClampNeg 0)))] := hD
                                          refine lv_iload_n hx hb d_M_stretch_216 rfl (lv_at hl 4 rfl) ?_
                                          refine lv_bipush (v := 51) hx hb d_M_stretch_217 (by decide) ?_
                                          refine lv_icmp_eq (tgt := 234) hx hb d_M_stretch_219 (by decide) (fun c_219 => absurd c_219 c_118) (fun c_219 => ?_)
                                          refine lv_iload_n hx hb d_M_stretch_222 rfl (lv_at hl 4 rfl) ?_
                                          refine lv_bipush (v := 69) hx hb d_M_stretch_223 (by decide) ?_
                                          refine lv_icmp_eq (tgt := 234) hx hb d_M_stretch_225 (by decide) (fun c_225 => absurd c_225 c_155) (fun c_225 => ?_)
                                          refine lv_iload_n hx hb d_M_stretch_228 rfl (lv_at hl 4 rfl) ?_
                                          refine lv_bipush (v := 72) hx hb d_M_stretch_229 (by decide) ?_
                                          refine lv_icmp_ne (tgt := 241) hx hb d_M_stretch_231 (by decide) (fun c_231 => ?_) (fun c_231 => absurd c_231 c_174)
                                          refine lv_aload_n hx hb d_M_stretch_241 rfl (lv_at hl 3 rfl) ?_
                                          refine lv_iload_n hx hb d_M_stretch_242 rfl (lv_at hl 4 rfl) ?_
                                          refine roSi (As := [.int x0]) (rest := [.ref b_x]) ⟨hx, hb, hml, hown, hts⟩ (mc_StepMachineModel_longKind l D tc tb z0 x0) (va_cwS 1 hts (goodS a_827 a_828 a_10 a_829) rfl rfl rfl hs_M_longKind ⟨Nat.le_of_ble_eq_true rfl, Nat.le_of_ble_eq_true rfl⟩) (hP.sub [] rfl) hK (hB.kept hS hZ) rfl hl.1 rfl (Nat.le_of_ble_eq_true rfl) d_M_stretch_243 ⟨Nat.zero_le _, Nat.zero_le _⟩ ?_
                                          refine roVi (As := [.int (mF_StepMachineModel_longKind x0)]) (rest := []) ⟨hx, hb, hml, hown, hts⟩ (mc_StepMachineModel_put l D tc tb z0 b_x b_row b_part b_mem b_mrk b_sf b_ss b_sr b_h b_r b_in b_out b_k m_on m_hc m_pc m_giv m_tak m_put m_st m_cu m_va m_sp m_un m_kc m_kn m_by m_kd m_tg m_ju (upd m_part (2 : Int32).toNatClampNeg 0) (mF_StepMachineModel_longKind x0) (lk_rng _)) (cwV 1 hts (goodV a_830 a_831 a_934 a_10 a_832) rfl rfl rfl hv_M_put ⟨Nat.le_of_ble_eq_true rfl, Nat.le_of_ble_eq_true rfl⟩) (hP.sub [0, 1, 2] rfl) hK (hB.kept hS hZ) rfl rfl rfl hl.1 rfl (Nat.le_of_ble_eq_true rfl) d_M_stretch_246 ⟨Nat.zero_le _, Nat.zero_le _⟩ ?_
                                          exact W.iret (v := (mF_StepMachineModel_put (upd m_part (2 : Int32).toNatClampNeg 0) (mF_StepMachineModel_longKind x0))) hx hb hr (fun t ht hW => ⟨⟨_, (upd m_part (2 : Int32).toNatClampNeg 0), rfl, by rw [mF_StepMachineModel_stretch, if_neg c_10, if_neg c_16, if_neg c_22, if_neg c_28, if_neg c_34, if_neg c_40, if_neg c_46, if_neg c_52, if_neg c_64, if_neg c_70, if_neg c_76, if_neg c_82, if_neg c_118, if_neg c_124, if_neg c_130, if_neg c_149, if_neg c_155, if_neg c_168, if_neg c_174, if_pos c_200], by rw [ht]; exact hP, va_K.moved hW.alike hK, hD⟩, hS.F ht⟩) hS.2.2 d_M_stretch_249
                                        · skip
                                          refine lv_iload_n hx hb d_M_stretch_203 rfl (lv_at hl 4 rfl) ?_
                                          refine lv_bipush (v := 66) hx hb d_M_stretch_204 (by decide) ?_
                                          refine lv_icmp_ne (tgt := 216) hx hb d_M_stretch_206 (by decide) (fun c_206 => ?_) (fun c_206 => ?_)
                                          · skip
                                            refine lv_iload_n hx hb d_M_stretch_216 rfl (lv_at hl 4 rfl) ?_
                                            refine lv_bipush (v := 51) hx hb d_M_stretch_217 (by decide) ?_
                                            refine lv_icmp_eq (tgt := 234) hx hb d_M_stretch_219 (by decide) (fun c_219 => absurd c_219 c_118) (fun c_219 => ?_)
                                            refine lv_iload_n hx hb d_M_stretch_222 rfl (lv_at hl 4 rfl) ?_
                                            refine lv_bipush (v := 69) hx hb d_M_stretch_223 (by decide) ?_
                                            refine lv_icmp_eq (tgt := 234) hx hb d_M_stretch_225 (by decide) (fun c_225 => absurd c_225 c_155) (fun c_225 => ?_)
                                            refine lv_iload_n hx hb d_M_stretch_228 rfl (lv_at hl 4 rfl) ?_
                                            refine lv_bipush (v := 72) hx hb d_M_stretch_229 (by decide) ?_
                                            refine lv_icmp_ne (tgt := 241) hx hb d_M_stretch_231 (by decide) (fun c_231 => ?_) (fun c_231 => absurd c_231 c_174)
                                            refine lv_aload_n hx hb d_M_stretch_241 rfl (lv_at hl 3 rfl) ?_
                                            refine lv_iload_n hx hb d_M_stretch_242 rfl (lv_at hl 4 rfl) ?_
                                            refine roSi (As := [.int x0]) (rest := [.ref b_x]) ⟨hx, hb, hml, hown, hts⟩ (mc_StepMachineModel_longKind l D tc tb z0 x0) (va_cwS 1 hts (goodS a_827 a_828 a_10 a_829) rfl rfl rfl hs_M_longKind ⟨Nat.le_of_ble_eq_true rfl, Nat.le_of_ble_eq_true rfl⟩) (hP.sub [] rfl) hK (hB.kept hS hZ) rfl hl.1 rfl (Nat.le_of_ble_eq_true rfl) d_M_stretch_243 ⟨Nat.zero_le _, Nat.zero_le _⟩ ?_
                                            refine roVi (As := [.int (mF_StepMachineModel_longKind x0)]) (rest := []) ⟨hx, hb, hml, hown, hts⟩ (mc_StepMachineModel_put l D tc tb z0 b_x b_row b_part b_mem b_mrk b_sf b_ss b_sr b_h b_r b_in b_out b_k m_on m_hc m_pc m_giv m_tak m_put m_st m_cu m_va m_sp m_un m_kc m_kn m_by m_kd m_tg m_ju m_part (mF_StepMachineModel_longKind x0) (lk_rng _)) (cwV 1 hts (goodV a_830 a_831 a_934 a_10 a_832) rfl rfl rfl hv_M_put ⟨Nat.le_of_ble_eq_true rfl, Nat.le_of_ble_eq_true rfl⟩) (hP.sub [0, 1, 2] rfl) hK (hB.kept hS hZ) rfl rfl rfl hl.1 rfl (Nat.le_of_ble_eq_true rfl) d_M_stretch_246 ⟨Nat.zero_le _, Nat.zero_le _⟩ ?_
                                            exact W.iret (v := (mF_StepMachineModel_put m_part (mF_StepMachineModel_longKind x0))) hx hb hr (fun t ht hW => ⟨⟨_, m_part, rfl, by rw [mF_StepMachineModel_stretch, if_neg c_10, if_neg c_16, if_neg c_22, if_neg c_28, if_neg c_34, if_neg c_40, if_neg c_46, if_neg c_52, if_neg c_64, if_neg c_70, if_neg c_76, if_neg c_82, if_neg c_118, if_neg c_124, if_neg c_130, if_neg c_149, if_neg c_155, if_neg c_168, if_neg c_174, if_neg c_200, if_neg c_206], by rw [ht]; exact hP, va_K.moved hW.alike hK, hD⟩, hS.F ht⟩) hS.2.2 d_M_stretch_249
                                          · skip
                                            refine lv_aload_n hx hb d_M_stretch_209 rfl (lv_at hl 3 rfl) ?_
                                            refine va_get (D := D) (ci := 9) (v := .ref b_part) (C := "StepMachineModel") (T := TX9) (N := 29) hx hb hts inU_9 hown hK hP 0 rfl rfl 1 (by decide) (hts _ a_634) (fun _ h9 => h9) rfl d_M_stretch_210 ?_
                                            refine lv_iconst (v := 2) hx hb d_M_stretch_213 (by decide) ?_
                                            refine lv_iconst (v := 0) hx hb d_M_stretch_214 (by decide) ?_
                                            refine va_iast hx hb hK hP hD hS 2 0 rfl rfl (vp_in_nI (n := 2) (N := 4) (by decide) (by decide)) d_M_stretch_215 (fun H locs hP hD hS => ?_)
                                            have hP : va_P D vwCl [(b_x, .inr (9, [.ref b_row, .ref b_part, .ref b_mem, .ref b_mrk, .ref b_sf, .ref b_ss, .ref b_sr, .int m_on, .ref b_h, .int m_hc, .ref b_r, .int m_pc, .ref b_in, .int m_giv, .int m_tak, .ref b_out, .int m_put, .int m_st, .int m_cu, .int m_va, .int m_sp, .int m_un, .ref b_k, .int m_kc, .int m_kn, .int m_by, .int m_kd, .int m_tg, .int m_ju])), (b_row, .inl (tc 0, 2400, .inl rowT)), (b_part, .inl (tc 0, 4, .inl (upd m_part (2 : Int32).toNatClampNeg 0)))] H := hP
                                            have hD : va_D A [(b_x, .inr (9, [.ref b_row, .ref b_part, .ref b_mem, .ref b_mrk, .ref b_sf, .ref b_ss, .ref b_sr, .int m_on, .ref b_h, .int m_hc, .ref b_r, .int m_pc, .ref b_in, .int m_giv, .int m_tak, .ref b_out, .int m_put, .int m_st, .int m_cu, .int m_va, .int m_sp, .int m_un, .ref b_k, .int m_kc, .int m_kn, .int m_by, .int m_kd, .int m_tg, .int m_ju])), (b_row, .inl (tc 0, 2400, .inl rowT)), (b_part, .inl (tc 0, 4, .inl (upd m_part (2 : Int32).toNatClampNeg 0)))] := hD
                                            refine lv_iload_n hx hb d_M_stretch_216 rfl (lv_at hl 4 rfl) ?_
                                            refine lv_bipush (v := 51) hx hb d_M_stretch_217 (by decide) ?_
                                            refine lv_icmp_eq (tgt := 234) hx hb d_M_stretch_219 (by decide) (fun c_219 => absurd c_219 c_118) (fun c_219 => ?_)
                                            refine lv_iload_n hx hb d_M_stretch_222 rfl (lv_at hl 4 rfl) ?_
                                            refine lv_bipush (v := 69) hx hb d_M_stretch_223 (by decide) ?_
                                            refine lv_icmp_eq (tgt := 234) hx hb d_M_stretch_225 (by decide) (fun c_225 => absurd c_225 c_155) (fun c_225 => ?_)
                                            refine lv_iload_n hx hb d_M_stretch_228 rfl (lv_at hl 4 rfl) ?_
                                            refine lv_bipush (v := 72) hx hb d_M_stretch_229 (by decide) ?_
                                            refine lv_icmp_ne (tgt := 241) hx hb d_M_stretch_231 (by decide) (fun c_231 => ?_) (fun c_231 => absurd c_231 c_174)
                                            refine lv_aload_n hx hb d_M_stretch_241 rfl (lv_at hl 3 rfl) ?_
                                            refine lv_iload_n hx hb d_M_stretch_242 rfl (lv_at hl 4 rfl) ?_
                                            refine roSi (As := [.int x0]) (rest := [.ref b_x]) ⟨hx, hb, hml, hown, hts⟩ (mc_StepMachineModel_longKind l D tc tb z0 x0) (va_cwS 1 hts (goodS a_827 a_828 a_10 a_829) rfl rfl rfl hs_M_longKind ⟨Nat.le_of_ble_eq_true rfl, Nat.le_of_ble_eq_true rfl⟩) (hP.sub [] rfl) hK (hB.kept hS hZ) rfl hl.1 rfl (Nat.le_of_ble_eq_true rfl) d_M_stretch_243 ⟨Nat.zero_le _, Nat.zero_le _⟩ ?_
                                            refine roVi (As := [.int (mF_StepMachineModel_longKind x0)]) (rest := []) ⟨hx, hb, hml, hown, hts⟩ (mc_StepMachineModel_put l D tc tb z0 b_x b_row b_part b_mem b_mrk b_sf b_ss b_sr b_h b_r b_in b_out b_k m_on m_hc m_pc m_giv m_tak m_put m_st m_cu m_va m_sp m_un m_kc m_kn m_by m_kd m_tg m_ju (upd m_part (2 : Int32).toNatClampNeg 0) (mF_StepMachineModel_longKind x0) (lk_rng _)) (cwV 1 hts (goodV a_830 a_831 a_934 a_10 a_832) rfl rfl rfl hv_M_put ⟨Nat.le_of_ble_eq_true rfl, Nat.le_of_ble_eq_true rfl⟩) (hP.sub [0, 1, 2] rfl) hK (hB.kept hS hZ) rfl rfl rfl hl.1 rfl (Nat.le_of_ble_eq_true rfl) d_M_stretch_246 ⟨Nat.zero_le _, Nat.zero_le _⟩ ?_
                                            exact W.iret (v := (mF_StepMachineModel_put (upd m_part (2 : Int32).toNatClampNeg 0) (mF_StepMachineModel_longKind x0))) hx hb hr (fun t ht hW => ⟨⟨_, (upd m_part (2 : Int32).toNatClampNeg 0), rfl, by rw [mF_StepMachineModel_stretch, if_neg c_10, if_neg c_16, if_neg c_22, if_neg c_28, if_neg c_34, if_neg c_40, if_neg c_46, if_neg c_52, if_neg c_64, if_neg c_70, if_neg c_76, if_neg c_82, if_neg c_118, if_neg c_124, if_neg c_130, if_neg c_149, if_neg c_155, if_neg c_168, if_neg c_174, if_neg c_200, if_pos c_206], by rw [ht]; exact hP, va_K.moved hW.alike hK, hD⟩, hS.F ht⟩) hS.2.2 d_M_stretch_249
                                      · skip
                                        refine lv_aload_n hx hb d_M_stretch_177 rfl (lv_at hl 3 rfl) ?_
                                        refine va_get (D := D) (ci := 9) (v := .ref b_part) (C := "StepMachineModel") (T := TX9) (N := 29) hx hb hts inU_9 hown hK hP 0 rfl rfl 1 (by decide) (hts _ a_634) (fun _ h9 => h9) rfl d_M_stretch_178 ?_
                                        refine lv_iconst (v := 0) hx hb d_M_stretch_181 (by decide) ?_
                                        refine lv_iconst (v := 1) hx hb d_M_stretch_182 (by decide) ?_
                                        refine va_iast hx hb hK hP hD hS 2 0 rfl rfl (vp_in_nI (n := 0) (N := 4) (by decide) (by decide)) d_M_stretch_183 (fun H locs hP hD hS => ?_)
                                        have hP : va_P D vwCl [(b_x, .inr (9, [.ref b_row, .ref b_part, .ref b_mem, .ref b_mrk, .ref b_sf, .ref b_ss, .ref b_sr, .int m_on, .ref b_h, .int m_hc, .ref b_r, .int m_pc, .ref b_in, .int m_giv, .int m_tak, .ref b_out, .int m_put, .int m_st, .int m_cu, .int m_va, .int m_sp, .int m_un, .ref b_k, .int m_kc, .int m_kn, .int m_by, .int m_kd, .int m_tg, .int m_ju])), (b_row, .inl (tc 0, 2400, .inl rowT)), (b_part, .inl (tc 0, 4, .inl (upd m_part (0 : Int32).toNatClampNeg 1)))] H := hP
                                        have hD : va_D A [(b_x, .inr (9, [.ref b_row, .ref b_part, .ref b_mem, .ref b_mrk, .ref b_sf, .ref b_ss, .ref b_sr, .int m_on, .ref b_h, .int m_hc, .ref b_r, .int m_pc, .ref b_in, .int m_giv, .int m_tak, .ref b_out, .int m_put, .int m_st, .int m_cu, .int m_va, .int m_sp, .int m_un, .ref b_k, .int m_kc, .int m_kn, .int m_by, .int m_kd, .int m_tg, .int m_ju])), (b_row, .inl (tc 0, 2400, .inl rowT)), (b_part, .inl (tc 0, 4, .inl (upd m_part (0 : Int32).toNatClampNeg 1)))] := hD
                                        refine lv_iload_n hx hb d_M_stretch_184 rfl (lv_at hl 4 rfl) ?_
                                        refine lv_bipush (v := 55) hx hb d_M_stretch_185 (by decide) ?_
                                        refine lv_icmp_ne (tgt := 197) hx hb d_M_stretch_187 (by decide) (fun c_187 => ?_) (fun c_187 => absurd c_187 c_70)
                                        refine lv_iload_n hx hb d_M_stretch_197 rfl (lv_at hl 4 rfl) ?_
                                        refine lv_bipush (v := 65) hx hb d_M_stretch_198 (by decide) ?_
                                        refine lv_icmp_eq (tgt := 209) hx hb d_M_stretch_200 (by decide) (fun c_200 => absurd c_200 (by rw [c_174]; decide)) (fun c_200 => ?_)
                                        refine lv_iload_n hx hb d_M_stretch_203 rfl (lv_at hl 4 rfl) ?_
                                        refine lv_bipush (v := 66) hx hb d_M_stretch_204 (by decide) ?_
                                        refine lv_icmp_ne (tgt := 216) hx hb d_M_stretch_206 (by decide) (fun c_206 => ?_) (fun c_206 => absurd c_206 (by rw [c_174]; decide))
                                        refine lv_iload_n hx hb d_M_stretch_216 rfl (lv_at hl 4 rfl) ?_
                                        refine lv_bipush (v := 51) hx hb d_M_stretch_217 (by decide) ?_
                                        refine lv_icmp_eq (tgt := 234) hx hb d_M_stretch_219 (by decide) (fun c_219 => absurd c_219 c_118) (fun c_219 => ?_)
                                        refine lv_iload_n hx hb d_M_stretch_222 rfl (lv_at hl 4 rfl) ?_
                                        refine lv_bipush (v := 69) hx hb d_M_stretch_223 (by decide) ?_
                                        refine lv_icmp_eq (tgt := 234) hx hb d_M_stretch_225 (by decide) (fun c_225 => absurd c_225 c_155) (fun c_225 => ?_)
                                        refine lv_iload_n hx hb d_M_stretch_228 rfl (lv_at hl 4 rfl) ?_
                                        refine lv_bipush (v := 72) hx hb d_M_stretch_229 (by decide) ?_
                                        refine lv_icmp_ne (tgt := 241) hx hb d_M_stretch_231 (by decide) (fun c_231 => absurd c_174 c_231) (fun c_231 => ?_)
                                        refine lv_aload_n hx hb d_M_stretch_234 rfl (lv_at hl 3 rfl) ?_
                                        refine va_get (D := D) (ci := 9) (v := .ref b_part) (C := "StepMachineModel") (T := TX9) (N := 29) hx hb hts inU_9 hown hK hP 0 rfl rfl 1 (by decide) (hts _ a_634) (fun _ h9 => h9) rfl d_M_stretch_235 ?_
                                        refine lv_iconst (v := 3) hx hb d_M_stretch_238 (by decide) ?_
                                        refine lv_iconst (v := 0) hx hb d_M_stretch_239 (by decide) ?_
                                        refine va_iast hx hb hK hP hD hS 2 0 rfl rfl (vp_in_nI (n := 3) (N := 4) (by decide) (by decide)) d_M_stretch_240 (fun H locs hP hD hS => ?_)
                                        have hP : va_P D vwCl [(b_x, .inr (9, [.ref b_row, .ref b_part, .ref b_mem, .ref b_mrk, .ref b_sf, .ref b_ss, .ref b_sr, .int m_on, .ref b_h, .int m_hc, .ref b_r, .int m_pc, .ref b_in, .int m_giv, .int m_tak, .ref b_out, .int m_put, .int m_st, .int m_cu, .int m_va, .int m_sp, .int m_un, .ref b_k, .int m_kc, .int m_kn, .int m_by, .int m_kd, .int m_tg, .int m_ju])), (b_row, .inl (tc 0, 2400, .inl rowT)), (b_part, .inl (tc 0, 4, .inl (upd (upd m_part (0 : Int32).toNatClampNeg 1) (3 : Int32).toNatClampNeg 0)))] H := hP
                                        have hD : va_D A [(b_x, .inr (9, [.ref b_row, .ref b_part, .ref b_mem, .ref b_mrk, .ref b_sf, .ref b_ss, .ref b_sr, .int m_on, .ref b_h, .int m_hc, .ref b_r, .int m_pc, .ref b_in, .int m_giv, .int m_tak, .ref b_out, .int m_put, .int m_st, .int m_cu, .int m_va, .int m_sp, .int m_un, .ref b_k, .int m_kc, .int m_kn, .int m_by, .int m_kd, .int m_tg, .int m_ju])), (b_row, .inl (tc 0, 2400, .inl rowT)), (b_part, .inl (tc 0, 4, .inl (upd (upd m_part (0 : Int32).toNatClampNeg 1) (3 : Int32).toNatClampNeg 0)))] := hD
                                        refine lv_aload_n hx hb d_M_stretch_241 rfl (lv_at hl 3 rfl) ?_
                                        refine lv_iload_n hx hb d_M_stretch_242 rfl (lv_at hl 4 rfl) ?_
                                        refine roSi (As := [.int x0]) (rest := [.ref b_x]) ⟨hx, hb, hml, hown, hts⟩ (mc_StepMachineModel_longKind l D tc tb z0 x0) (va_cwS 1 hts (goodS a_827 a_828 a_10 a_829) rfl rfl rfl hs_M_longKind ⟨Nat.le_of_ble_eq_true rfl, Nat.le_of_ble_eq_true rfl⟩) (hP.sub [] rfl) hK (hB.kept hS hZ) rfl hl.1 rfl (Nat.le_of_ble_eq_true rfl) d_M_stretch_243 ⟨Nat.zero_le _, Nat.zero_le _⟩ ?_
                                        refine roVi (As := [.int (mF_StepMachineModel_longKind x0)]) (rest := []) ⟨hx, hb, hml, hown, hts⟩ (mc_StepMachineModel_put l D tc tb z0 b_x b_row b_part b_mem b_mrk b_sf b_ss b_sr b_h b_r b_in b_out b_k m_on m_hc m_pc m_giv m_tak m_put m_st m_cu m_va m_sp m_un m_kc m_kn m_by m_kd m_tg m_ju (upd (upd m_part (0 : Int32).toNatClampNeg 1) (3 : Int32).toNatClampNeg 0) (mF_StepMachineModel_longKind x0) (lk_rng _)) (cwV 1 hts (goodV a_830 a_831 a_934 a_10 a_832) rfl rfl rfl hv_M_put ⟨Nat.le_of_ble_eq_true rfl, Nat.le_of_ble_eq_true rfl⟩) (hP.sub [0, 1, 2] rfl) hK (hB.kept hS hZ) rfl rfl rfl hl.1 rfl (Nat.le_of_ble_eq_true rfl) d_M_stretch_246 ⟨Nat.zero_le _, Nat.zero_le _⟩ ?_
                                        exact W.iret (v := (mF_StepMachineModel_put (upd (upd m_part (0 : Int32).toNatClampNeg 1) (3 : Int32).toNatClampNeg 0) (mF_StepMachineModel_longKind x0))) hx hb hr (fun t ht hW => ⟨⟨_, (upd (upd m_part (0 : Int32).toNatClampNeg 1) (3 : Int32).toNatClampNeg 0), rfl, by rw [mF_StepMachineModel_stretch, if_neg c_10, if_neg c_16, if_neg c_22, if_neg c_28, if_neg c_34, if_neg c_40, if_neg c_46, if_neg c_52, if_neg c_64, if_neg c_70, if_neg c_76, if_neg c_82, if_neg c_118, if_neg c_124, if_neg c_130, if_neg c_149, if_neg c_155, if_neg c_168, if_pos c_174], by rw [ht]; exact hP, va_K.moved hW.alike hK, hD⟩, hS.F ht⟩) hS.2.2 d_M_stretch_249
                                  · skip
                                    refine lv_aload_n hx hb d_M_stretch_158 rfl (lv_at hl 3 rfl) ?_
                                    refine va_get (D := D) (ci := 9) (v := .ref b_part) (C := "StepMachineModel") (T := TX9) (N := 29) hx hb hts inU_9 hown hK hP 0 rfl rfl 1 (by decide) (hts _ a_634) (fun _ h9 => h9) rfl d_M_stretch_159 ?_
                                    refine lv_iconst (v := 0) hx hb d_M_stretch_162 (by decide) ?_
                                    refine lv_iconst (v := 0) hx hb d_M_stretch_163 (by decide) ?_
                                    refine va_iast hx hb hK hP hD hS 2 0 rfl rfl (vp_in_nI (n := 0) (N := 4) (by decide) (by decide)) d_M_stretch_164 (fun H locs hP hD hS => ?_)
                                    have hP : va_P D vwCl [(b_x, .inr (9, [.ref b_row, .ref b_part, .ref b_mem, .ref b_mrk, .ref b_sf, .ref b_ss, .ref b_sr, .int m_on, .ref b_h, .int m_hc, .ref b_r, .int m_pc, .ref b_in, .int m_giv, .int m_tak, .ref b_out, .int m_put, .int m_st, .int m_cu, .int m_va, .int m_sp, .int m_un, .ref b_k, .int m_kc, .int m_kn, .int m_by, .int m_kd, .int m_tg, .int m_ju])), (b_row, .inl (tc 0, 2400, .inl rowT)), (b_part, .inl (tc 0, 4, .inl (upd m_part (0 : Int32).toNatClampNeg 0)))] H := hP
                                    have hD : va_D A [(b_x, .inr (9, [.ref b_row, .ref b_part, .ref b_mem, .ref b_mrk, .ref b_sf, .ref b_ss, .ref b_sr, .int m_on, .ref b_h, .int m_hc, .ref b_r, .int m_pc, .ref b_in, .int m_giv, .int m_tak, .ref b_out, .int m_put, .int m_st, .int m_cu, .int m_va, .int m_sp, .int m_un, .ref b_k, .int m_kc, .int m_kn, .int m_by, .int m_kd, .int m_tg, .int m_ju])), (b_row, .inl (tc 0, 2400, .inl rowT)), (b_part, .inl (tc 0, 4, .inl (upd m_part (0 : Int32).toNatClampNeg 0)))] := hD
                                    refine lv_iload_n hx hb d_M_stretch_165 rfl (lv_at hl 4 rfl) ?_
                                    refine lv_bipush (v := 53) hx hb d_M_stretch_166 (by decide) ?_
                                    refine lv_icmp_eq (tgt := 177) hx hb d_M_stretch_168 (by decide) (fun c_168 => absurd c_168 (by rw [c_155]; decide)) (fun c_168 => ?_)
                                    refine lv_iload_n hx hb d_M_stretch_171 rfl (lv_at hl 4 rfl) ?_
                                    refine lv_bipush (v := 72) hx hb d_M_stretch_172 (by decide) ?_
                                    refine lv_icmp_ne (tgt := 184) hx hb d_M_stretch_174 (by decide) (fun c_174 => ?_) (fun c_174 => absurd c_174 (by rw [c_155]; decide))
                                    refine lv_iload_n hx hb d_M_stretch_184 rfl (lv_at hl 4 rfl) ?_
                                    refine lv_bipush (v := 55) hx hb d_M_stretch_185 (by decide) ?_
                                    refine lv_icmp_ne (tgt := 197) hx hb d_M_stretch_187 (by decide) (fun c_187 => ?_) (fun c_187 => absurd c_187 c_70)
                                    refine lv_iload_n hx hb d_M_stretch_197 rfl (lv_at hl 4 rfl) ?_
                                    refine lv_bipush (v := 65) hx hb d_M_stretch_198 (by decide) ?_
                                    refine lv_icmp_eq (tgt := 209) hx hb d_M_stretch_200 (by decide) (fun c_200 => absurd c_200 (by rw [c_155]; decide)) (fun c_200 => ?_)
                                    refine lv_iload_n hx hb d_M_stretch_203 rfl (lv_at hl 4 rfl) ?_
                                    refine lv_bipush (v := 66) hx hb d_M_stretch_204 (by decide) ?_
                                    refine lv_icmp_ne (tgt := 216) hx hb d_M_stretch_206 (by decide) (fun c_206 => ?_) (fun c_206 => absurd c_206 (by rw [c_155]; decide))
                                    refine lv_iload_n hx hb d_M_stretch_216 rfl (lv_at hl 4 rfl) ?_
                                    refine lv_bipush (v := 51) hx hb d_M_stretch_217 (by decide) ?_
                                    refine lv_icmp_eq (tgt := 234) hx hb d_M_stretch_219 (by decide) (fun c_219 => absurd c_219 c_118) (fun c_219 => ?_)
                                    refine lv_iload_n hx hb d_M_stretch_222 rfl (lv_at hl 4 rfl) ?_
                                    refine lv_bipush (v := 69) hx hb d_M_stretch_223 (by decide) ?_
                                    refine lv_icmp_eq (tgt := 234) hx hb d_M_stretch_225 (by decide) (fun c_225 => ?_) (fun c_225 => absurd c_155 c_225)
                                    refine lv_aload_n hx hb d_M_stretch_234 rfl (lv_at hl 3 rfl) ?_
                                    refine va_get (D := D) (ci := 9) (v := .ref b_part) (C := "StepMachineModel") (T := TX9) (N := 29) hx hb hts inU_9 hown hK hP 0 rfl rfl 1 (by decide) (hts _ a_634) (fun _ h9 => h9) rfl d_M_stretch_235 ?_
                                    refine lv_iconst (v := 3) hx hb d_M_stretch_238 (by decide) ?_
                                    refine lv_iconst (v := 0) hx hb d_M_stretch_239 (by decide) ?_
                                    refine va_iast hx hb hK hP hD hS 2 0 rfl rfl (vp_in_nI (n := 3) (N := 4) (by decide) (by decide)) d_M_stretch_240 (fun H locs hP hD hS => ?_)
                                    have hP : va_P D vwCl [(b_x, .inr (9, [.ref b_row, .ref b_part, .ref b_mem, .ref b_mrk, .ref b_sf, .ref b_ss, .ref b_sr, .int m_on, .ref b_h, .int m_hc, .ref b_r, .int m_pc, .ref b_in, .int m_giv, .int m_tak, .ref b_out, .int m_put, .int m_st, .int m_cu, .int m_va, .int m_sp, .int m_un, .ref b_k, .int m_kc, .int m_kn, .int m_by, .int m_kd, .int m_tg, .int m_ju])), (b_row, .inl (tc 0, 2400, .inl rowT)), (b_part, .inl (tc 0, 4, .inl (upd (upd m_part (0 : Int32).toNatClampNeg 0) (3 : Int32).toNatClampNeg 0)))] H := hP
                                    have hD : va_D A [(b_x, .inr (9, [.ref b_row, .ref b_part, .ref b_mem, .ref b_mrk, .ref b_sf, .ref b_ss, .ref b_sr, .int m_on, .ref b_h, .int m_hc, .ref b_r, .int m_pc, .ref b_in, .int m_giv, .int m_tak, .ref b_out, .int m_put, .int m_st, .int m_cu, .int m_va, .int m_sp, .int m_un, .ref b_k, .int m_kc, .int m_kn, .int m_by, .int m_kd, .int m_tg, .int m_ju])), (b_row, .inl (tc 0, 2400, .inl rowT)), (b_part, .inl (tc 0, 4, .inl (upd (upd m_part (0 : Int32).toNatClampNeg 0) (3 : Int32).toNatClampNeg 0)))] := hD
                                    refine lv_aload_n hx hb d_M_stretch_241 rfl (lv_at hl 3 rfl) ?_
                                    refine lv_iload_n hx hb d_M_stretch_242 rfl (lv_at hl 4 rfl) ?_
                                    refine roSi (As := [.int x0]) (rest := [.ref b_x]) ⟨hx, hb, hml, hown, hts⟩ (mc_StepMachineModel_longKind l D tc tb z0 x0) (va_cwS 1 hts (goodS a_827 a_828 a_10 a_829) rfl rfl rfl hs_M_longKind ⟨Nat.le_of_ble_eq_true rfl, Nat.le_of_ble_eq_true rfl⟩) (hP.sub [] rfl) hK (hB.kept hS hZ) rfl hl.1 rfl (Nat.le_of_ble_eq_true rfl) d_M_stretch_243 ⟨Nat.zero_le _, Nat.zero_le _⟩ ?_
                                    refine roVi (As := [.int (mF_StepMachineModel_longKind x0)]) (rest := []) ⟨hx, hb, hml, hown, hts⟩ (mc_StepMachineModel_put l D tc tb z0 b_x b_row b_part b_mem b_mrk b_sf b_ss b_sr b_h b_r b_in b_out b_k m_on m_hc m_pc m_giv m_tak m_put m_st m_cu m_va m_sp m_un m_kc m_kn m_by m_kd m_tg m_ju (upd (upd m_part (0 : Int32).toNatClampNeg 0) (3 : Int32).toNatClampNeg 0) (mF_StepMachineModel_longKind x0) (lk_rng _)) (cwV 1 hts (goodV a_830 a_831 a_934 a_10 a_832) rfl rfl rfl hv_M_put ⟨Nat.le_of_ble_eq_true rfl, Nat.le_of_ble_eq_true rfl⟩) (hP.sub [0, 1, 2] rfl) hK (hB.kept hS hZ) rfl rfl rfl hl.1 rfl (Nat.le_of_ble_eq_true rfl) d_M_stretch_246 ⟨Nat.zero_le _, Nat.zero_le _⟩ ?_
                                    exact W.iret (v := (mF_StepMachineModel_put (upd (upd m_part (0 : Int32).toNatClampNeg 0) (3 : Int32).toNatClampNeg 0) (mF_StepMachineModel_longKind x0))) hx hb hr (fun t ht hW => ⟨⟨_, (upd (upd m_part (0 : Int32).toNatClampNeg 0) (3 : Int32).toNatClampNeg 0), rfl, by rw [mF_StepMachineModel_stretch, if_neg c_10, if_neg c_16, if_neg c_22, if_neg c_28, if_neg c_34, if_neg c_40, if_neg c_46, if_neg c_52, if_neg c_64, if_neg c_70, if_neg c_76, if_neg c_82, if_neg c_118, if_neg c_124, if_neg c_130, if_neg c_149, if_pos c_155], by rw [ht]; exact hP, va_K.moved hW.alike hK, hD⟩, hS.F ht⟩) hS.2.2 d_M_stretch_249
                              · skip
                                refine lv_aload_n hx hb d_M_stretch_133 rfl (lv_at hl 3 rfl) ?_
                                refine va_get (D := D) (ci := 9) (v := .ref b_part) (C := "StepMachineModel") (T := TX9) (N := 29) hx hb hts inU_9 hown hK hP 0 rfl rfl 1 (by decide) (hts _ a_634) (fun _ h9 => h9) rfl d_M_stretch_134 ?_
                                refine lv_iconst (v := 1) hx hb d_M_stretch_137 (by decide) ?_
                                refine lv_iconst (v := 0) hx hb d_M_stretch_138 (by decide) ?_
                                refine va_iast hx hb hK hP hD hS 2 0 rfl rfl (vp_in_nI (n := 1) (N := 4) (by decide) (by decide)) d_M_stretch_139 (fun H locs hP hD hS => ?_)
                                have hP : va_P D vwCl [(b_x, .inr (9, [.ref b_row, .ref b_part, .ref b_mem, .ref b_mrk, .ref b_sf, .ref b_ss, .ref b_sr, .int m_on, .ref b_h, .int m_hc, .ref b_r, .int m_pc, .ref b_in, .int m_giv, .int m_tak, .ref b_out, .int m_put, .int m_st, .int m_cu, .int m_va, .int m_sp, .int m_un, .ref b_k, .int m_kc, .int m_kn, .int m_by, .int m_kd, .int m_tg, .int m_ju])), (b_row, .inl (tc 0, 2400, .inl rowT)), (b_part, .inl (tc 0, 4, .inl (upd m_part (1 : Int32).toNatClampNeg 0)))] H := hP
                                have hD : va_D A [(b_x, .inr (9, [.ref b_row, .ref b_part, .ref b_mem, .ref b_mrk, .ref b_sf, .ref b_ss, .ref b_sr, .int m_on, .ref b_h, .int m_hc, .ref b_r, .int m_pc, .ref b_in, .int m_giv, .int m_tak, .ref b_out, .int m_put, .int m_st, .int m_cu, .int m_va, .int m_sp, .int m_un, .ref b_k, .int m_kc, .int m_kn, .int m_by, .int m_kd, .int m_tg, .int m_ju])), (b_row, .inl (tc 0, 2400, .inl rowT)), (b_part, .inl (tc 0, 4, .inl (upd m_part (1 : Int32).toNatClampNeg 0)))] := hD
                                refine lv_iload_n hx hb d_M_stretch_140 rfl (lv_at hl 4 rfl) ?_
                                refine lv_bipush (v := 51) hx hb d_M_stretch_141 (by decide) ?_
                                refine lv_icmp_eq (tgt := 158) hx hb d_M_stretch_143 (by decide) (fun c_143 => absurd c_143 c_118) (fun c_143 => ?_)
                                refine lv_iload_n hx hb d_M_stretch_146 rfl (lv_at hl 4 rfl) ?_
                                refine lv_bipush (v := 64) hx hb d_M_stretch_147 (by decide) ?_
                                refine lv_icmp_eq (tgt := 158) hx hb d_M_stretch_149 (by decide) (fun c_149 => absurd c_149 (by rw [c_130]; decide)) (fun c_149 => ?_)
                                refine lv_iload_n hx hb d_M_stretch_152 rfl (lv_at hl 4 rfl) ?_
                                refine lv_bipush (v := 69) hx hb d_M_stretch_153 (by decide) ?_
                                refine lv_icmp_ne (tgt := 165) hx hb d_M_stretch_155 (by decide) (fun c_155 => ?_) (fun c_155 => absurd c_155 (by rw [c_130]; decide))
                                refine lv_iload_n hx hb d_M_stretch_165 rfl (lv_at hl 4 rfl) ?_
                                refine lv_bipush (v := 53) hx hb d_M_stretch_166 (by decide) ?_
                                refine lv_icmp_eq (tgt := 177) hx hb d_M_stretch_168 (by decide) (fun c_168 => absurd c_168 (by rw [c_130]; decide)) (fun c_168 => ?_)
                                refine lv_iload_n hx hb d_M_stretch_171 rfl (lv_at hl 4 rfl) ?_
                                refine lv_bipush (v := 72) hx hb d_M_stretch_172 (by decide) ?_
                                refine lv_icmp_ne (tgt := 184) hx hb d_M_stretch_174 (by decide) (fun c_174 => ?_) (fun c_174 => absurd c_174 (by rw [c_130]; decide))
                                refine lv_iload_n hx hb d_M_stretch_184 rfl (lv_at hl 4 rfl) ?_
                                refine lv_bipush (v := 55) hx hb d_M_stretch_185 (by decide) ?_
                                refine lv_icmp_ne (tgt := 197) hx hb d_M_stretch_187 (by decide) (fun c_187 => ?_) (fun c_187 => absurd c_187 c_70)
                                refine lv_iload_n hx hb d_M_stretch_197 rfl (lv_at hl 4 rfl) ?_
                                refine lv_bipush (v := 65) hx hb d_M_stretch_198 (by decide) ?_
                                refine lv_icmp_eq (tgt := 209) hx hb d_M_stretch_200 (by decide) (fun c_200 => absurd c_200 (by rw [c_130]; decide)) (fun c_200 => ?_)
                                refine lv_iload_n hx hb d_M_stretch_203 rfl (lv_at hl 4 rfl) ?_
                                refine lv_bipush (v := 66) hx hb d_M_stretch_204 (by decide) ?_
                                refine lv_icmp_ne (tgt := 216) hx hb d_M_stretch_206 (by decide) (fun c_206 => ?_) (fun c_206 => absurd c_206 (by rw [c_130]; decide))
                                refine lv_iload_n hx hb d_M_stretch_216 rfl (lv_at hl 4 rfl) ?_
                                refine lv_bipush (v := 51) hx hb d_M_stretch_217 (by decide) ?_
                                refine lv_icmp_eq (tgt := 234) hx hb d_M_stretch_219 (by decide) (fun c_219 => absurd c_219 c_118) (fun c_219 => ?_)
                                refine lv_iload_n hx hb d_M_stretch_222 rfl (lv_at hl 4 rfl) ?_
                                refine lv_bipush (v := 69) hx hb d_M_stretch_223 (by decide) ?_
                                refine lv_icmp_eq (tgt := 234) hx hb d_M_stretch_225 (by decide) (fun c_225 => absurd c_225 (by rw [c_130]; decide)) (fun c_225 => ?_)
                                refine lv_iload_n hx hb d_M_stretch_228 rfl (lv_at hl 4 rfl) ?_
                                refine lv_bipush (v := 72) hx hb d_M_stretch_229 (by decide) ?_
                                refine lv_icmp_ne (tgt := 241) hx hb d_M_stretch_231 (by decide) (fun c_231 => ?_) (fun c_231 => absurd c_231 (by rw [c_130]; decide))
                                refine lv_aload_n hx hb d_M_stretch_241 rfl (lv_at hl 3 rfl) ?_
                                refine lv_iload_n hx hb d_M_stretch_242 rfl (lv_at hl 4 rfl) ?_
                                refine roSi (As := [.int x0]) (rest := [.ref b_x]) ⟨hx, hb, hml, hown, hts⟩ (mc_StepMachineModel_longKind l D tc tb z0 x0) (va_cwS 1 hts (goodS a_827 a_828 a_10 a_829) rfl rfl rfl hs_M_longKind ⟨Nat.le_of_ble_eq_true rfl, Nat.le_of_ble_eq_true rfl⟩) (hP.sub [] rfl) hK (hB.kept hS hZ) rfl hl.1 rfl (Nat.le_of_ble_eq_true rfl) d_M_stretch_243 ⟨Nat.zero_le _, Nat.zero_le _⟩ ?_
                                refine roVi (As := [.int (mF_StepMachineModel_longKind x0)]) (rest := []) ⟨hx, hb, hml, hown, hts⟩ (mc_StepMachineModel_put l D tc tb z0 b_x b_row b_part b_mem b_mrk b_sf b_ss b_sr b_h b_r b_in b_out b_k m_on m_hc m_pc m_giv m_tak m_put m_st m_cu m_va m_sp m_un m_kc m_kn m_by m_kd m_tg m_ju (upd m_part (1 : Int32).toNatClampNeg 0) (mF_StepMachineModel_longKind x0) (lk_rng _)) (cwV 1 hts (goodV a_830 a_831 a_934 a_10 a_832) rfl rfl rfl hv_M_put ⟨Nat.le_of_ble_eq_true rfl, Nat.le_of_ble_eq_true rfl⟩) (hP.sub [0, 1, 2] rfl) hK (hB.kept hS hZ) rfl rfl rfl hl.1 rfl (Nat.le_of_ble_eq_true rfl) d_M_stretch_246 ⟨Nat.zero_le _, Nat.zero_le _⟩ ?_
                                exact W.iret (v := (mF_StepMachineModel_put (upd m_part (1 : Int32).toNatClampNeg 0) (mF_StepMachineModel_longKind x0))) hx hb hr (fun t ht hW => ⟨⟨_, (upd m_part (1 : Int32).toNatClampNeg 0), rfl, by rw [mF_StepMachineModel_stretch, if_neg c_10, if_neg c_16, if_neg c_22, if_neg c_28, if_neg c_34, if_neg c_40, if_neg c_46, if_neg c_52, if_neg c_64, if_neg c_70, if_neg c_76, if_neg c_82, if_neg c_118, if_neg c_124, if_pos c_130], by rw [ht]; exact hP, va_K.moved hW.alike hK, hD⟩, hS.F ht⟩) hS.2.2 d_M_stretch_249
                        · skip
                          refine lv_iconst (v := 1) hx hb d_M_stretch_85 (by decide) ?_
                          refine lv_goto (tgt := 90) hx hb d_M_stretch_86 (by decide) ?_
                          refine lv_istore (lv' := [(4, .int 1), (3, .int 0), (2, .int (m_part (0 : Int32).toNatClampNeg)), (0, .ref b_x), (1, .int x0)]) hx hb d_M_stretch_90 hl (by decide) rfl (fun ls hl => ?_)
                          refine lv_iload_n hx hb d_M_stretch_92 rfl (lv_at hl 1 rfl) ?_
                          refine lv_if_eq (tgt := 103) hx hb d_M_stretch_93 (by decide) (fun c_93 => ?_) (fun c_93 => absurd c_93 (by decide))
                          refine lv_iload hx hb d_M_stretch_103 (lv_at hl 0 rfl) ?_
                          refine lv_if_eq (tgt := 115) hx hb d_M_stretch_105 (by decide) (fun c_105 => absurd c_105 (by decide)) (fun c_105 => ?_)
                          refine lv_aload_n hx hb d_M_stretch_108 rfl (lv_at hl 3 rfl) ?_
                          refine va_get (D := D) (ci := 9) (v := .ref b_part) (C := "StepMachineModel") (T := TX9) (N := 29) hx hb hts inU_9 hown hK hP 0 rfl rfl 1 (by decide) (hts _ a_634) (fun _ h9 => h9) rfl d_M_stretch_109 ?_
                          refine lv_iconst (v := 1) hx hb d_M_stretch_112 (by decide) ?_
                          refine lv_iconst (v := 2) hx hb d_M_stretch_113 (by decide) ?_
                          refine va_iast hx hb hK hP hD hS 2 0 rfl rfl (vp_in_nI (n := 1) (N := 4) (by decide) (by decide)) d_M_stretch_114 (fun H locs hP hD hS => ?_)
                          have hP : va_P D vwCl [(b_x, .inr (9, [.ref b_row, .ref b_part, .ref b_mem, .ref b_mrk, .ref b_sf, .ref b_ss, .ref b_sr, .int m_on, .ref b_h, .int m_hc, .ref b_r, .int m_pc, .ref b_in, .int m_giv, .int m_tak, .ref b_out, .int m_put, .int m_st, .int m_cu, .int m_va, .int m_sp, .int m_un, .ref b_k, .int m_kc, .int m_kn, .int m_by, .int m_kd, .int m_tg, .int m_ju])), (b_row, .inl (tc 0, 2400, .inl rowT)), (b_part, .inl (tc 0, 4, .inl (upd m_part (1 : Int32).toNatClampNeg 2)))] H := hP
                          have hD : va_D A [(b_x, .inr (9, [.ref b_row, .ref b_part, .ref b_mem, .ref b_mrk, .ref b_sf, .ref b_ss, .ref b_sr, .int m_on, .ref b_h, .int m_hc, .ref b_r, .int m_pc, .ref b_in, .int m_giv, .int m_tak, .ref b_out, .int m_put, .int m_st, .int m_cu, .int m_va, .int m_sp, .int m_un, .ref b_k, .int m_kc, .int m_kn, .int m_by, .int m_kd, .int m_tg, .int m_ju])), (b_row, .inl (tc 0, 2400, .inl rowT)), (b_part, .inl (tc 0, 4, .inl (upd m_part (1 : Int32).toNatClampNeg 2)))] := hD
                          refine lv_iload_n hx hb d_M_stretch_115 rfl (lv_at hl 4 rfl) ?_
                          refine lv_bipush (v := 51) hx hb d_M_stretch_116 (by decide) ?_
                          refine lv_icmp_eq (tgt := 133) hx hb d_M_stretch_118 (by decide) (fun c_118 => absurd c_118 (by rw [c_82]; decide)) (fun c_118 => ?_)
                          refine lv_iload_n hx hb d_M_stretch_121 rfl (lv_at hl 4 rfl) ?_
                          refine lv_bipush (v := 54) hx hb d_M_stretch_122 (by decide) ?_
                          refine lv_icmp_eq (tgt := 133) hx hb d_M_stretch_124 (by decide) (fun c_124 => absurd c_124 (by rw [c_82]; decide)) (fun c_124 => ?_)
                          refine lv_iload_n hx hb d_M_stretch_127 rfl (lv_at hl 4 rfl) ?_
                          refine lv_bipush (v := 70) hx hb d_M_stretch_128 (by decide) ?_
                          refine lv_icmp_ne (tgt := 140) hx hb d_M_stretch_130 (by decide) (fun c_130 => ?_) (fun c_130 => absurd c_130 (by rw [c_82]; decide))
                          refine lv_iload_n hx hb d_M_stretch_140 rfl (lv_at hl 4 rfl) ?_
                          refine lv_bipush (v := 51) hx hb d_M_stretch_141 (by decide) ?_
                          refine lv_icmp_eq (tgt := 158) hx hb d_M_stretch_143 (by decide) (fun c_143 => absurd c_143 (by rw [c_82]; decide)) (fun c_143 => ?_)
                          refine lv_iload_n hx hb d_M_stretch_146 rfl (lv_at hl 4 rfl) ?_
                          refine lv_bipush (v := 64) hx hb d_M_stretch_147 (by decide) ?_
                          refine lv_icmp_eq (tgt := 158) hx hb d_M_stretch_149 (by decide) (fun c_149 => absurd c_149 (by rw [c_82]; decide)) (fun c_149 => ?_)
                          refine lv_iload_n hx hb d_M_stretch_152 rfl (lv_at hl 4 rfl) ?_
                          refine lv_bipush (v := 69) hx hb d_M_stretch_153 (by decide) ?_
                          refine lv_icmp_ne (tgt := 165) hx hb d_M_stretch_155 (by decide) (fun c_155 => ?_) (fun c_155 => absurd c_155 (by rw [c_82]; decide))
                          refine lv_iload_n hx hb d_M_stretch_165 rfl (lv_at hl 4 rfl) ?_
                          refine lv_bipush (v := 53) hx hb d_M_stretch_166 (by decide) ?_
                          refine lv_icmp_eq (tgt := 177) hx hb d_M_stretch_168 (by decide) (fun c_168 => absurd c_168 (by rw [c_82]; decide)) (fun c_168 => ?_)
                          refine lv_iload_n hx hb d_M_stretch_171 rfl (lv_at hl 4 rfl) ?_
                          refine lv_bipush (v := 72) hx hb d_M_stretch_172 (by decide) ?_
                          refine lv_icmp_ne (tgt := 184) hx hb d_M_stretch_174 (by decide) (fun c_174 => ?_) (fun c_174 => absurd c_174 (by rw [c_82]; decide))
                          refine lv_iload_n hx hb d_M_stretch_184 rfl (lv_at hl 4 rfl) ?_
                          refine lv_bipush (v := 55) hx hb d_M_stretch_185 (by decide) ?_
                          refine lv_icmp_ne (tgt := 197) hx hb d_M_stretch_187 (by decide) (fun c_187 => ?_) (fun c_187 => absurd c_187 c_70)
                          refine lv_iload_n hx hb d_M_stretch_197 rfl (lv_at hl 4 rfl) ?_
                          refine lv_bipush (v := 65) hx hb d_M_stretch_198 (by decide) ?_
                          refine lv_icmp_eq (tgt := 209) hx hb d_M_stretch_200 (by decide) (fun c_200 => absurd c_200 (by rw [c_82]; decide)) (fun c_200 => ?_)
                          refine lv_iload_n hx hb d_M_stretch_203 rfl (lv_at hl 4 rfl) ?_
                          refine lv_bipush (v := 66) hx hb d_M_stretch_204 (by decide) ?_
                          refine lv_icmp_ne (tgt := 216) hx hb d_M_stretch_206 (by decide) (fun c_206 => ?_) (fun c_206 => absurd c_206 (by rw [c_82]; decide))
                          refine lv_iload_n hx hb d_M_stretch_216 rfl (lv_at hl 4 rfl) ?_
                          refine lv_bipush (v := 51) hx hb d_M_stretch_217 (by decide) ?_
                          refine lv_icmp_eq (tgt := 234) hx hb d_M_stretch_219 (by decide) (fun c_219 => absurd c_219 (by rw [c_82]; decide)) (fun c_219 => ?_)
                          refine lv_iload_n hx hb d_M_stretch_222 rfl (lv_at hl 4 rfl) ?_
                          refine lv_bipush (v := 69) hx hb d_M_stretch_223 (by decide) ?_
                          refine lv_icmp_eq (tgt := 234) hx hb d_M_stretch_225 (by decide) (fun c_225 => absurd c_225 (by rw [c_82]; decide)) (fun c_225 => ?_)
                          refine lv_iload_n hx hb d_M_stretch_228 rfl (lv_at hl 4 rfl) ?_
                          refine lv_bipush (v := 72) hx hb d_M_stretch_229 (by decide) ?_
                          refine lv_icmp_ne (tgt := 241) hx hb d_M_stretch_231 (by decide) (fun c_231 => ?_) (fun c_231 => absurd c_231 (by rw [c_82]; decide))
                          refine lv_aload_n hx hb d_M_stretch_241 rfl (lv_at hl 3 rfl) ?_
                          refine lv_iload_n hx hb d_M_stretch_242 rfl (lv_at hl 4 rfl) ?_
                          refine roSi (As := [.int x0]) (rest := [.ref b_x]) ⟨hx, hb, hml, hown, hts⟩ (mc_StepMachineModel_longKind l D tc tb z0 x0) (va_cwS 1 hts (goodS a_827 a_828 a_10 a_829) rfl rfl rfl hs_M_longKind ⟨Nat.le_of_ble_eq_true rfl, Nat.le_of_ble_eq_true rfl⟩) (hP.sub [] rfl) hK (hB.kept hS hZ) rfl hl.1 rfl (Nat.le_of_ble_eq_true rfl) d_M_stretch_243 ⟨Nat.zero_le _, Nat.zero_le _⟩ ?_
                          refine roVi (As := [.int (mF_StepMachineModel_longKind x0)]) (rest := []) ⟨hx, hb, hml, hown, hts⟩ (mc_StepMachineModel_put l D tc tb z0 b_x b_row b_part b_mem b_mrk b_sf b_ss b_sr b_h b_r b_in b_out b_k m_on m_hc m_pc m_giv m_tak m_put m_st m_cu m_va m_sp m_un m_kc m_kn m_by m_kd m_tg m_ju (upd m_part (1 : Int32).toNatClampNeg 2) (mF_StepMachineModel_longKind x0) (lk_rng _)) (cwV 1 hts (goodV a_830 a_831 a_934 a_10 a_832) rfl rfl rfl hv_M_put ⟨Nat.le_of_ble_eq_true rfl, Nat.le_of_ble_eq_true rfl⟩) (hP.sub [0, 1, 2] rfl) hK (hB.kept hS hZ) rfl rfl rfl hl.1 rfl (Nat.le_of_ble_eq_true rfl) d_M_stretch_246 ⟨Nat.zero_le _, Nat.zero_le _⟩ ?_
                          exact W.iret (v := (mF_StepMachineModel_put (upd m_part (1 : Int32).toNatClampNeg 2) (mF_StepMachineModel_longKind x0))) hx hb hr (fun t ht hW => ⟨⟨_, (upd m_part (1 : Int32).toNatClampNeg 2), rfl, by rw [mF_StepMachineModel_stretch, if_neg c_10, if_neg c_16, if_neg c_22, if_neg c_28, if_neg c_34, if_neg c_40, if_neg c_46, if_neg c_52, if_neg c_64, if_neg c_70, if_neg c_76, if_pos c_82], by rw [ht]; exact hP, va_K.moved hW.alike hK, hD⟩, hS.F ht⟩) hS.2.2 d_M_stretch_249
                · skip
                  refine lv_iconst (v := 1) hx hb d_M_stretch_55 (by decide) ?_
                  refine lv_goto (tgt := 60) hx hb d_M_stretch_56 (by decide) ?_
                  refine lv_istore_n (lv' := [(3, .int 1), (2, .int (m_part (0 : Int32).toNatClampNeg)), (0, .ref b_x), (1, .int x0)]) hx hb d_M_stretch_60 rfl hl (by decide) rfl (fun ls hl => ?_)
                  refine lv_iload_n hx hb d_M_stretch_61 rfl (lv_at hl 3 rfl) ?_
                  refine lv_bipush (v := 48) hx hb d_M_stretch_62 (by decide) ?_
                  refine lv_icmp_eq (tgt := 85) hx hb d_M_stretch_64 (by decide) (fun c_64 => absurd c_64 (by rw [c_52]; decide)) (fun c_64 => ?_)
                  refine lv_iload_n hx hb d_M_stretch_67 rfl (lv_at hl 3 rfl) ?_
                  refine lv_bipush (v := 55) hx hb d_M_stretch_68 (by decide) ?_
                  refine lv_icmp_eq (tgt := 85) hx hb d_M_stretch_70 (by decide) (fun c_70 => absurd c_70 (by rw [c_52]; decide)) (fun c_70 => ?_)
                  refine lv_iload_n hx hb d_M_stretch_73 rfl (lv_at hl 3 rfl) ?_
                  refine lv_bipush (v := 68) hx hb d_M_stretch_74 (by decide) ?_
                  refine lv_icmp_eq (tgt := 85) hx hb d_M_stretch_76 (by decide) (fun c_76 => absurd c_76 (by rw [c_52]; decide)) (fun c_76 => ?_)
                  refine lv_iload_n hx hb d_M_stretch_79 rfl (lv_at hl 3 rfl) ?_
                  refine lv_bipush (v := 74) hx hb d_M_stretch_80 (by decide) ?_
                  refine lv_icmp_ne (tgt := 89) hx hb d_M_stretch_82 (by decide) (fun c_82 => ?_) (fun c_82 => absurd c_82 (by rw [c_52]; decide))
                  refine lv_iconst (v := 0) hx hb d_M_stretch_89 (by decide) ?_
                  refine lv_istore (lv' := [(4, .int 0), (3, .int 1), (2, .int (m_part (0 : Int32).toNatClampNeg)), (0, .ref b_x), (1, .int x0)]) hx hb d_M_stretch_90 hl (by decide) rfl (fun ls hl => ?_)
                  refine lv_iload_n hx hb d_M_stretch_92 rfl (lv_at hl 1 rfl) ?_
                  refine lv_if_eq (tgt := 103) hx hb d_M_stretch_93 (by decide) (fun c_93 => absurd c_93 (by decide)) (fun c_93 => ?_)
                  refine lv_aload_n hx hb d_M_stretch_96 rfl (lv_at hl 3 rfl) ?_
                  refine va_get (D := D) (ci := 9) (v := .ref b_part) (C := "StepMachineModel") (T := TX9) (N := 29) hx hb hts inU_9 hown hK hP 0 rfl rfl 1 (by decide) (hts _ a_634) (fun _ h9 => h9) rfl d_M_stretch_97 ?_
                  refine lv_iconst (v := 1) hx hb d_M_stretch_100 (by decide) ?_
                  refine lv_iload_n hx hb d_M_stretch_101 rfl (lv_at hl 2 rfl) ?_
                  refine va_iast hx hb hK hP hD hS 2 0 rfl rfl (vp_in_nI (n := 1) (N := 4) (by decide) (by decide)) d_M_stretch_102 (fun H locs hP hD hS => ?_)
                  have hP : va_P D vwCl [(b_x, .inr (9, [.ref b_row, .ref b_part, .ref b_mem, .ref b_mrk, .ref b_sf, .ref b_ss, .ref b_sr, .int m_on, .ref b_h, .int m_hc, .ref b_r, .int m_pc, .ref b_in, .int m_giv, .int m_tak, .ref b_out, .int m_put, .int m_st, .int m_cu, .int m_va, .int m_sp, .int m_un, .ref b_k, .int m_kc, .int m_kn, .int m_by, .int m_kd, .int m_tg, .int m_ju])), (b_row, .inl (tc 0, 2400, .inl rowT)), (b_part, .inl (tc 0, 4, .inl (upd m_part (1 : Int32).toNatClampNeg (m_part (0 : Int32).toNatClampNeg))))] H := hP
                  have hD : va_D A [(b_x, .inr (9, [.ref b_row, .ref b_part, .ref b_mem, .ref b_mrk, .ref b_sf, .ref b_ss, .ref b_sr, .int m_on, .ref b_h, .int m_hc, .ref b_r, .int m_pc, .ref b_in, .int m_giv, .int m_tak, .ref b_out, .int m_put, .int m_st, .int m_cu, .int m_va, .int m_sp, .int m_un, .ref b_k, .int m_kc, .int m_kn, .int m_by, .int m_kd, .int m_tg, .int m_ju])), (b_row, .inl (tc 0, 2400, .inl rowT)), (b_part, .inl (tc 0, 4, .inl (upd m_part (1 : Int32).toNatClampNeg (m_part (0 : Int32).toNatClampNeg))))] := hD
                  refine lv_iload hx hb d_M_stretch_103 (lv_at hl 0 rfl) ?_
                  refine lv_if_eq (tgt := 115) hx hb d_M_stretch_105 (by decide) (fun c_105 => ?_) (fun c_105 => absurd c_105 (by decide))
                  refine lv_iload_n hx hb d_M_stretch_115 rfl (lv_at hl 4 rfl) ?_
                  refine lv_bipush (v := 51) hx hb d_M_stretch_116 (by decide) ?_
                  refine lv_icmp_eq (tgt := 133) hx hb d_M_stretch_118 (by decide) (fun c_118 => absurd c_118 (by rw [c_52]; decide)) (fun c_118 => ?_)
                  refine lv_iload_n hx hb d_M_stretch_121 rfl (lv_at hl 4 rfl) ?_
                  refine lv_bipush (v := 54) hx hb d_M_stretch_122 (by decide) ?_
                  refine lv_icmp_eq (tgt := 133) hx hb d_M_stretch_124 (by decide) (fun c_124 => absurd c_124 (by rw [c_52]; decide)) (fun c_124 => ?_)
                  refine lv_iload_n hx hb d_M_stretch_127 rfl (lv_at hl 4 rfl) ?_
                  refine lv_bipush (v := 70) hx hb d_M_stretch_128 (by decide) ?_
                  refine lv_icmp_ne (tgt := 140) hx hb d_M_stretch_130 (by decide) (fun c_130 => ?_) (fun c_130 => absurd c_130 (by rw [c_52]; decide))
                  refine lv_iload_n hx hb d_M_stretch_140 rfl (lv_at hl 4 rfl) ?_
                  refine lv_bipush (v := 51) hx hb d_M_stretch_141 (by decide) ?_
                  refine lv_icmp_eq (tgt := 158) hx hb d_M_stretch_143 (by decide) (fun c_143 => absurd c_143 (by rw [c_52]; decide)) (fun c_143 => ?_)
                  refine lv_iload_n hx hb d_M_stretch_146 rfl (lv_at hl 4 rfl) ?_
                  refine lv_bipush (v := 64) hx hb d_M_stretch_147 (by decide) ?_
                  refine lv_icmp_eq (tgt := 158) hx hb d_M_stretch_149 (by decide) (fun c_149 => absurd c_149 (by rw [c_52]; decide)) (fun c_149 => ?_)
                  refine lv_iload_n hx hb d_M_stretch_152 rfl (lv_at hl 4 rfl) ?_
                  refine lv_bipush (v := 69) hx hb d_M_stretch_153 (by decide) ?_
                  refine lv_icmp_ne (tgt := 165) hx hb d_M_stretch_155 (by decide) (fun c_155 => ?_) (fun c_155 => absurd c_155 (by rw [c_52]; decide))
                  refine lv_iload_n hx hb d_M_stretch_165 rfl (lv_at hl 4 rfl) ?_
                  refine lv_bipush (v := 53) hx hb d_M_stretch_166 (by decide) ?_
                  refine lv_icmp_eq (tgt := 177) hx hb d_M_stretch_168 (by decide) (fun c_168 => absurd c_168 (by rw [c_52]; decide)) (fun c_168 => ?_)
                  refine lv_iload_n hx hb d_M_stretch_171 rfl (lv_at hl 4 rfl) ?_
                  refine lv_bipush (v := 72) hx hb d_M_stretch_172 (by decide) ?_
                  refine lv_icmp_ne (tgt := 184) hx hb d_M_stretch_174 (by decide) (fun c_174 => ?_) (fun c_174 => absurd c_174 (by rw [c_52]; decide))
                  refine lv_iload_n hx hb d_M_stretch_184 rfl (lv_at hl 4 rfl) ?_
                  refine lv_bipush (v := 55) hx hb d_M_stretch_185 (by decide) ?_
                  refine lv_icmp_ne (tgt := 197) hx hb d_M_stretch_187 (by decide) (fun c_187 => ?_) (fun c_187 => absurd c_187 (by rw [c_52]; decide))
                  refine lv_iload_n hx hb d_M_stretch_197 rfl (lv_at hl 4 rfl) ?_
                  refine lv_bipush (v := 65) hx hb d_M_stretch_198 (by decide) ?_
                  refine lv_icmp_eq (tgt := 209) hx hb d_M_stretch_200 (by decide) (fun c_200 => absurd c_200 (by rw [c_52]; decide)) (fun c_200 => ?_)
                  refine lv_iload_n hx hb d_M_stretch_203 rfl (lv_at hl 4 rfl) ?_
                  refine lv_bipush (v := 66) hx hb d_M_stretch_204 (by decide) ?_
                  refine lv_icmp_ne (tgt := 216) hx hb d_M_stretch_206 (by decide) (fun c_206 => ?_) (fun c_206 => absurd c_206 (by rw [c_52]; decide))
                  refine lv_iload_n hx hb d_M_stretch_216 rfl (lv_at hl 4 rfl) ?_
                  refine lv_bipush (v := 51) hx hb d_M_stretch_217 (by decide) ?_
                  refine lv_icmp_eq (tgt := 234) hx hb d_M_stretch_219 (by decide) (fun c_219 => absurd c_219 (by rw [c_52]; decide)) (fun c_219 => ?_)
                  refine lv_iload_n hx hb d_M_stretch_222 rfl (lv_at hl 4 rfl) ?_
                  refine lv_bipush (v := 69) hx hb d_M_stretch_223 (by decide) ?_
                  refine lv_icmp_eq (tgt := 234) hx hb d_M_stretch_225 (by decide) (fun c_225 => absurd c_225 (by rw [c_52]; decide)) (fun c_225 => ?_)
                  refine lv_iload_n hx hb d_M_stretch_228 rfl (lv_at hl 4 rfl) ?_
                  refine lv_bipush (v := 72) hx hb d_M_stretch_229 (by decide) ?_
                  refine lv_icmp_ne (tgt := 241) hx hb d_M_stretch_231 (by decide) (fun c_231 => ?_) (fun c_231 => absurd c_231 (by rw [c_52]; decide))
                  refine lv_aload_n hx hb d_M_stretch_241 rfl (lv_at hl 3 rfl) ?_
                  refine lv_iload_n hx hb d_M_stretch_242 rfl (lv_at hl 4 rfl) ?_
                  refine roSi (As := [.int x0]) (rest := [.ref b_x]) ⟨hx, hb, hml, hown, hts⟩ (mc_StepMachineModel_longKind l D tc tb z0 x0) (va_cwS 1 hts (goodS a_827 a_828 a_10 a_829) rfl rfl rfl hs_M_longKind ⟨Nat.le_of_ble_eq_true rfl, Nat.le_of_ble_eq_true rfl⟩) (hP.sub [] rfl) hK (hB.kept hS hZ) rfl hl.1 rfl (Nat.le_of_ble_eq_true rfl) d_M_stretch_243 ⟨Nat.zero_le _, Nat.zero_le _⟩ ?_
                  refine roVi (As := [.int (mF_StepMachineModel_longKind x0)]) (rest := []) ⟨hx, hb, hml, hown, hts⟩ (mc_StepMachineModel_put l D tc tb z0 b_x b_row b_part b_mem b_mrk b_sf b_ss b_sr b_h b_r b_in b_out b_k m_on m_hc m_pc m_giv m_tak m_put m_st m_cu m_va m_sp m_un m_kc m_kn m_by m_kd m_tg m_ju (upd m_part (1 : Int32).toNatClampNeg (m_part (0 : Int32).toNatClampNeg)) (mF_StepMachineModel_longKind x0) (lk_rng _)) (cwV 1 hts (goodV a_830 a_831 a_934 a_10 a_832) rfl rfl rfl hv_M_put ⟨Nat.le_of_ble_eq_true rfl, Nat.le_of_ble_eq_true rfl⟩) (hP.sub [0, 1, 2] rfl) hK (hB.kept hS hZ) rfl rfl rfl hl.1 rfl (Nat.le_of_ble_eq_true rfl) d_M_stretch_246 ⟨Nat.zero_le _, Nat.zero_le _⟩ ?_
                  exact W.iret (v := (mF_StepMachineModel_put (upd m_part (1 : Int32).toNatClampNeg (m_part (0 : Int32).toNatClampNeg)) (mF_StepMachineModel_longKind x0))) hx hb hr (fun t ht hW => ⟨⟨_, (upd m_part (1 : Int32).toNatClampNeg (m_part (0 : Int32).toNatClampNeg)), rfl, by rw [mF_StepMachineModel_stretch, if_neg c_10, if_neg c_16, if_neg c_22, if_neg c_28, if_neg c_34, if_neg c_40, if_neg c_46, if_pos c_52], by rw [ht]; exact hP, va_K.moved hW.alike hK, hD⟩, hS.F ht⟩) hS.2.2 d_M_stretch_249
