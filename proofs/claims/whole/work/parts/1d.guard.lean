def cF_Guard_mayBeMarked (x0 : Int32) : Int32 := (if x0 < 0 then 0 else (if 131072 ≤ x0 then 0 else (if (x0 &&& 1) = 0 then 1 else 0)))
set_option maxHeartbeats 4000000 in
set_option maxRecDepth 100000 in
theorem cc_Guard_mayBeMarked (l : Launch) (D : va_G) (tc : Nat → ClassId) (tb : Nat → Nat) (z0 : Nat) (x0 : Int32) : Met l y_Guar_mayBeMarked (wM y_Guar_mayBeMarked b_Guar_mayBeMarked 1 (some .boolean)) ({ frames := 0, cells := 0, slots := 0, locals := 0 }) (va_Pc [.int x0] (Pr D tc tb z0 [])) (vp_Si (fun r => r = (cF_Guard_mayBeMarked x0))) 0 0 (fun _ => False) := by
  refine Met.ofW (cc := b_Guar_mayBeMarked) (maxL := 1) (ret := (some .boolean)) (by decide) rfl ?_
  intro p e s m args below meth c s₁ B hml hv
  obtain ⟨rfl, hP, hK, hB⟩ := hv
  have hx := B.exec
  have hb := B.bytes
  have hr := B.returns
  have hts : ∀ w ∈ wALL, w.before _ s = true := fun w h => atoms_spec (ws := (wM y_Guar_mayBeMarked b_Guar_mayBeMarked 1 (some .boolean))) B.pre w (List.mem_cons_of_mem _ h)
  have hown : s.vm.findClass "StepMachine$Guard" = some m.cls := findClass_of_methodNamed B.named
  have hlocks := B.notSynchronized
  have hl := lv_entry ([.int x0]) (n := 1) (Nat.le_of_ble_eq_true rfl)
  rw [lg_entry_eq]
  generalize (lg_sl ([.int x0]) ++ List.replicate (1 - (lg_sl ([.int x0])).length) Slot.unset).toArray = ls at hl ⊢
  have hl : lv_has ls 1 [(0, .int x0)] := hl
  refine lv_iload_n hx hb d_Guar_mayBeMarked_0 rfl (lv_at hl 0 rfl) ?_
  refine lv_if_lt (tgt := 20) hx hb d_Guar_mayBeMarked_1 (by decide) (fun c_1 => ?_) (fun c_1 => ?_)
  · skip
    refine lv_iconst (v := 0) hx hb d_Guar_mayBeMarked_20 (by decide) ?_
    exact W.zret (v := 0) hx hb hr rfl (fun t ht hW => ⟨_, rfl, by rw [cF_Guard_mayBeMarked, if_pos c_1], ht⟩) (fun q h => by cases h) d_Guar_mayBeMarked_21
  · skip
    refine lv_iload_n hx hb d_Guar_mayBeMarked_4 rfl (lv_at hl 0 rfl) ?_
    refine lv_ldc (v := 131072) hx hb hown (hts _ a_200) d_Guar_mayBeMarked_5 ?_
    refine lv_icmp_ge (tgt := 20) hx hb d_Guar_mayBeMarked_7 (by decide) (fun c_7 => ?_) (fun c_7 => ?_)
    · skip
      refine lv_iconst (v := 0) hx hb d_Guar_mayBeMarked_20 (by decide) ?_
      exact W.zret (v := 0) hx hb hr rfl (fun t ht hW => ⟨_, rfl, by rw [cF_Guard_mayBeMarked, if_neg c_1, if_pos c_7], ht⟩) (fun q h => by cases h) d_Guar_mayBeMarked_21
    · skip
      refine lv_iload_n hx hb d_Guar_mayBeMarked_10 rfl (lv_at hl 0 rfl) ?_
      refine lv_iconst (v := 1) hx hb d_Guar_mayBeMarked_11 (by decide) ?_
      refine lv_iand hx hb d_Guar_mayBeMarked_12 ?_
      refine lv_if_ne (tgt := 20) hx hb d_Guar_mayBeMarked_13 (by decide) (fun c_13 => ?_) (fun c_13 => ?_)
      · skip
        refine lv_iconst (v := 0) hx hb d_Guar_mayBeMarked_20 (by decide) ?_
        exact W.zret (v := 0) hx hb hr rfl (fun t ht hW => ⟨_, rfl, by rw [cF_Guard_mayBeMarked, if_neg c_1, if_neg c_7, if_neg c_13], ht⟩) (fun q h => by cases h) d_Guar_mayBeMarked_21
      · skip
        refine lv_iconst (v := 1) hx hb d_Guar_mayBeMarked_16 (by decide) ?_
        refine lv_goto (tgt := 21) hx hb d_Guar_mayBeMarked_17 (by decide) ?_
        exact W.zret (v := 1) hx hb hr rfl (fun t ht hW => ⟨_, rfl, by rw [cF_Guard_mayBeMarked, if_neg c_1, if_neg c_7, if_pos c_13], ht⟩) (fun q h => by cases h) d_Guar_mayBeMarked_21
theorem ob_mrk {x : Int32} (h : ¬ cF_Guard_mayBeMarked x = 0) : vp_in (x >>> ((6 : Int32) &&& 31)) 2048 := by
  rw [cF_Guard_mayBeMarked] at h
  split at h
  · exact absurd rfl h
  · split at h
    · exact absurd rfl h
    · rename_i h1 h2
      have a1 := ob_nlt h1
      have a2 := ob_nle h2
      rw [vp_in_iff, pk_shr x ((6 : Int32) &&& 31) 6 (by decide), Int.shiftRight_eq_div_pow]
      have e1 : (0 : Int32).toInt = 0 := by decide
      have e2 : (131072 : Int32).toInt = 131072 := by decide
      constructor <;> omega
def cF_Guard_isMarked (v_mrk : Nat → Int32) (x0 : Int32) : Int32 := (if (cF_Guard_mayBeMarked x0) = 0 then 0 else (if ((j_ushr (v_mrk (x0 >>> ((6 : Int32) &&& 31)).toNatClampNeg) ((x0 >>> ((1 : Int32) &&& 31)) &&& 31)) &&& 1) = 0 then 0 else 1))
set_option maxHeartbeats 4000000 in
set_option maxRecDepth 100000 in
theorem cc_Guard_isMarked (l : Launch) (D : va_G) (tc : Nat → ClassId) (tb : Nat → Nat) (z0 : Nat) (a_g a_gm a_gb a_gs a_ga : Nat) (v_on : Int32) (v_mrk : Nat → Int32) (x0 : Int32) : Met l y_Guar_isMarked (wM y_Guar_isMarked b_Guar_isMarked 2 (some .boolean)) ({ frames := 1, cells := 0, slots := 0, locals := 20 }) (va_Pc [.ref a_g, .int x0] (Pr D tc tb z0 [(a_g, .inr (1, [.ref a_gb, .ref a_gs, .ref a_ga, .ref a_gm, .int v_on])), (a_gm, .inl (tc 0, 2048, .inl v_mrk))])) (vp_Si (fun r => r = (cF_Guard_isMarked v_mrk x0))) 0 0 (fun _ => False) := by
  refine Met.ofW (cc := b_Guar_isMarked) (maxL := 2) (ret := (some .boolean)) (by decide) rfl ?_
  intro p e s m args below meth c s₁ B hml hv
  obtain ⟨rfl, hP, hK, hB⟩ := hv
  have hx := B.exec
  have hb := B.bytes
  have hr := B.returns
  have hts : ∀ w ∈ wALL, w.before _ s = true := fun w h => atoms_spec (ws := (wM y_Guar_isMarked b_Guar_isMarked 2 (some .boolean))) B.pre w (List.mem_cons_of_mem _ h)
  have hown : s.vm.findClass "StepMachine$Guard" = some m.cls := findClass_of_methodNamed B.named
  have hlocks := B.notSynchronized
  have hl := lv_entry ([.ref a_g, .int x0]) (n := 2) (Nat.le_of_ble_eq_true rfl)
  rw [lg_entry_eq]
  generalize (lg_sl ([.ref a_g, .int x0]) ++ List.replicate (2 - (lg_sl ([.ref a_g, .int x0])).length) Slot.unset).toArray = ls at hl ⊢
  have hl : lv_has ls 2 [(0, .ref a_g), (1, .int x0)] := hl
  refine lv_iload_n hx hb d_Guar_isMarked_0 rfl (lv_at hl 1 rfl) ?_
  refine roSi (As := [.int x0]) (rest := []) ⟨hx, hb, hml, hown, hts⟩ (cc_Guard_mayBeMarked l D tc tb z0 x0) (va_cwS 1 hts (goodS a_216 a_217 a_3 a_218) rfl rfl rfl hs_Guar_mayBeMarked ⟨Nat.le_of_ble_eq_true rfl, Nat.le_of_ble_eq_true rfl⟩) (hP.sub [] rfl) hK hB rfl hl.1 rfl (Nat.le_of_ble_eq_true rfl) d_Guar_isMarked_1 ⟨Nat.zero_le _, Nat.zero_le _⟩ ?_
  refine lv_if_eq (tgt := 32) hx hb d_Guar_isMarked_4 (by decide) (fun c_4 => ?_) (fun c_4 => ?_)
  · skip
    refine lv_iconst (v := 0) hx hb d_Guar_isMarked_32 (by decide) ?_
    exact W.zret (v := 0) hx hb hr rfl (fun t ht hW => ⟨_, rfl, by rw [cF_Guard_isMarked, if_pos c_4], ht⟩) (fun q h => by cases h) d_Guar_isMarked_33
  · skip
    refine lv_aload_n hx hb d_Guar_isMarked_7 rfl (lv_at hl 0 rfl) ?_
    refine va_get (D := D) (ci := 1) (v := .ref a_gm) (C := "StepMachine$Guard") (T := TX1) (N := 5) hx hb hts inU_1 hown hK hP 0 rfl rfl 3 (by decide) (hts _ a_40) (fun _ h9 => h9) rfl d_Guar_isMarked_8 ?_
    refine lv_iload_n hx hb d_Guar_isMarked_11 rfl (lv_at hl 1 rfl) ?_
    refine lv_bipush (v := 6) hx hb d_Guar_isMarked_12 (by decide) ?_
    refine lv_ishr hx hb d_Guar_isMarked_14 ?_
    refine va_iald hx hb hK hP 1 0 rfl rfl (ob_mrk c_4) d_Guar_isMarked_15 ?_
    refine lv_iload_n hx hb d_Guar_isMarked_16 rfl (lv_at hl 1 rfl) ?_
    refine lv_iconst (v := 1) hx hb d_Guar_isMarked_17 (by decide) ?_
    refine lv_ishr hx hb d_Guar_isMarked_18 ?_
    refine lv_bipush (v := 31) hx hb d_Guar_isMarked_19 (by decide) ?_
    refine lv_iand hx hb d_Guar_isMarked_21 ?_
    refine lv_iushr (v := (j_ushr (v_mrk (x0 >>> ((6 : Int32) &&& 31)).toNatClampNeg) ((x0 >>> ((1 : Int32) &&& 31)) &&& 31))) hx hb d_Guar_isMarked_22 rfl ?_
    refine lv_iconst (v := 1) hx hb d_Guar_isMarked_23 (by decide) ?_
    refine lv_iand hx hb d_Guar_isMarked_24 ?_
    refine lv_if_eq (tgt := 32) hx hb d_Guar_isMarked_25 (by decide) (fun c_25 => ?_) (fun c_25 => ?_)
    · skip
      refine lv_iconst (v := 0) hx hb d_Guar_isMarked_32 (by decide) ?_
      exact W.zret (v := 0) hx hb hr rfl (fun t ht hW => ⟨_, rfl, by rw [cF_Guard_isMarked, if_neg c_4, if_pos c_25], ht⟩) (fun q h => by cases h) d_Guar_isMarked_33
    · skip
      refine lv_iconst (v := 1) hx hb d_Guar_isMarked_28 (by decide) ?_
      refine lv_goto (tgt := 33) hx hb d_Guar_isMarked_29 (by decide) ?_
      exact W.zret (v := 1) hx hb hr rfl (fun t ht hW => ⟨_, rfl, by rw [cF_Guard_isMarked, if_neg c_4, if_neg c_25], ht⟩) (fun q h => by cases h) d_Guar_isMarked_33
def cF_Guard_putMark (v_mrk : Nat → Int32) (x0 : Int32) (x1 : Int32) : Int32 × (Nat → Int32) := (if (cF_Guard_mayBeMarked x0) = 0 then (0, v_mrk) else (if x1 = 0 then (1, (upd v_mrk (x0 >>> ((6 : Int32) &&& 31)).toNatClampNeg ((v_mrk (x0 >>> ((6 : Int32) &&& 31)).toNatClampNeg) &&& (((1 : Int32) <<< (((x0 >>> ((1 : Int32) &&& 31)) &&& 31) &&& 31)) ^^^ (-1))))) else (1, (upd v_mrk (x0 >>> ((6 : Int32) &&& 31)).toNatClampNeg (((v_mrk (x0 >>> ((6 : Int32) &&& 31)).toNatClampNeg) &&& (((1 : Int32) <<< (((x0 >>> ((1 : Int32) &&& 31)) &&& 31) &&& 31)) ^^^ (-1))) ||| ((1 : Int32) <<< (((x0 >>> ((1 : Int32) &&& 31)) &&& 31) &&& 31)))))))
set_option maxHeartbeats 4000000 in
set_option maxRecDepth 100000 in
theorem cc_Guard_putMark (l : Launch) (D : va_G) (tc : Nat → ClassId) (tb : Nat → Nat) (z0 : Nat) (sz : Nat) (a_g a_gm a_gb a_gs a_ga : Nat) (v_on : Int32) (v_mrk : Nat → Int32) (x0 : Int32) (x1 : Int32) : Met l y_Guar_putMark (wM y_Guar_putMark b_Guar_putMark 5 (some .boolean)) ({ frames := 1, cells := 0, slots := 0, locals := 20 }) (va_Pc [.ref a_g, .int x0, .int x1] (Pw D tc tb z0 [(a_g, .inr (1, [.ref a_gb, .ref a_gs, .ref a_ga, .ref a_gm, .int v_on])), (a_gm, .inl (tc 0, 2048, .inl v_mrk))] sz)) (va_Qi (fun (r : Int32) (u : (Nat → Int32)) => (r, u) = (cF_Guard_putMark v_mrk x0 x1)) (Bw D tc (va_A [(a_g, .inr (1, [.ref a_gb, .ref a_gs, .ref a_ga, .ref a_gm, .int v_on])), (a_gm, .inl (tc 0, 2048, .inl v_mrk))] sz) (fun u => [(a_g, .inr (1, [.ref a_gb, .ref a_gs, .ref a_ga, .ref a_gm, .int v_on])), (a_gm, .inl (tc 0, 2048, .inl u))])) (va_A [(a_g, .inr (1, [.ref a_gb, .ref a_gs, .ref a_ga, .ref a_gm, .int v_on])), (a_gm, .inl (tc 0, 2048, .inl v_mrk))] sz)) 0 0 (va_A [(a_g, .inr (1, [.ref a_gb, .ref a_gs, .ref a_ga, .ref a_gm, .int v_on])), (a_gm, .inl (tc 0, 2048, .inl v_mrk))] sz) := by
  refine Met.ofW (cc := b_Guar_putMark) (maxL := 5) (ret := (some .boolean)) (by decide) rfl ?_
  intro p e s m args below meth c s₁ B hml hv
  obtain ⟨rfl, hsz, hP, hK, hB, hD0, hZ0⟩ := hv
  have hx := B.exec
  have hb := B.bytes
  have hr := B.returns
  have hts : ∀ w ∈ wALL, w.before _ s = true := fun w h => atoms_spec (ws := (wM y_Guar_putMark b_Guar_putMark 5 (some .boolean))) B.pre w (List.mem_cons_of_mem _ h)
  have hown : s.vm.findClass "StepMachine$Guard" = some m.cls := findClass_of_methodNamed B.named
  have hlocks := B.notSynchronized
  subst hsz
  have hD := hD0.self (sz := s.heap.size)
  generalize hAe : va_A [(a_g, .inr (1, [.ref a_gb, .ref a_gs, .ref a_ga, .ref a_gm, .int v_on])), (a_gm, .inl (tc 0, 2048, .inl v_mrk))] s.heap.size = A at hD ⊢
  have hZ : ∀ q : Nat, A q → z0 ≤ q := by rw [← hAe]; exact hZ0
  have hA : ∀ q : Nat, s.heap.size ≤ q → A q := fun q h => by rw [← hAe]; exact Or.inr h
  have hS : va_S A s.heap s.heap [] := va_S.rf
  have hl := lv_entry ([.ref a_g, .int x0, .int x1]) (n := 5) (Nat.le_of_ble_eq_true rfl)
  rw [lg_entry_eq]
  generalize (lg_sl ([.ref a_g, .int x0, .int x1]) ++ List.replicate (5 - (lg_sl ([.ref a_g, .int x0, .int x1])).length) Slot.unset).toArray = ls at hl ⊢
  have hl : lv_has ls 5 [(0, .ref a_g), (1, .int x0), (2, .int x1)] := hl
  refine lv_iload_n hx hb d_Guar_putMark_0 rfl (lv_at hl 1 rfl) ?_
  refine roSi (As := [.int x0]) (rest := []) ⟨hx, hb, hml, hown, hts⟩ (cc_Guard_mayBeMarked l D tc tb z0 x0) (va_cwS 1 hts (goodS a_216 a_217 a_3 a_218) rfl rfl rfl hs_Guar_mayBeMarked ⟨Nat.le_of_ble_eq_true rfl, Nat.le_of_ble_eq_true rfl⟩) (hP.sub [] rfl) hK (hB.kept hS hZ) rfl hl.1 rfl (Nat.le_of_ble_eq_true rfl) d_Guar_putMark_1 ⟨Nat.zero_le _, Nat.zero_le _⟩ ?_
  refine lv_if_ne (tgt := 9) hx hb d_Guar_putMark_4 (by decide) (fun c_4 => ?_) (fun c_4 => ?_)
  · skip
    refine lv_iconst (v := 1) hx hb d_Guar_putMark_9 (by decide) ?_
    refine lv_iload_n hx hb d_Guar_putMark_10 rfl (lv_at hl 1 rfl) ?_
    refine lv_iconst (v := 1) hx hb d_Guar_putMark_11 (by decide) ?_
    refine lv_ishr hx hb d_Guar_putMark_12 ?_
    refine lv_bipush (v := 31) hx hb d_Guar_putMark_13 (by decide) ?_
    refine lv_iand hx hb d_Guar_putMark_15 ?_
    refine lv_ishl hx hb d_Guar_putMark_16 ?_
    refine lv_istore_n (lv' := [(3, .int ((1 : Int32) <<< (((x0 >>> ((1 : Int32) &&& 31)) &&& 31) &&& 31))), (0, .ref a_g), (1, .int x0), (2, .int x1)]) hx hb d_Guar_putMark_17 rfl hl (by decide) rfl (fun ls hl => ?_)
    refine lv_aload_n hx hb d_Guar_putMark_18 rfl (lv_at hl 1 rfl) ?_
    refine va_get (D := D) (ci := 1) (v := .ref a_gm) (C := "StepMachine$Guard") (T := TX1) (N := 5) hx hb hts inU_1 hown hK hP 0 rfl rfl 3 (by decide) (hts _ a_40) (fun _ h9 => h9) rfl d_Guar_putMark_19 ?_
    refine lv_iload_n hx hb d_Guar_putMark_22 rfl (lv_at hl 2 rfl) ?_
    refine lv_bipush (v := 6) hx hb d_Guar_putMark_23 (by decide) ?_
    refine lv_ishr hx hb d_Guar_putMark_25 ?_
    refine va_iald hx hb hK hP 1 0 rfl rfl (ob_mrk c_4) d_Guar_putMark_26 ?_
    refine lv_iload_n hx hb d_Guar_putMark_27 rfl (lv_at hl 0 rfl) ?_
    refine lv_iconst (v := (-1)) hx hb d_Guar_putMark_28 (by decide) ?_
    refine lv_ixor hx hb d_Guar_putMark_29 ?_
    refine lv_iand hx hb d_Guar_putMark_30 ?_
    refine lv_istore (lv' := [(4, .int ((v_mrk (x0 >>> ((6 : Int32) &&& 31)).toNatClampNeg) &&& (((1 : Int32) <<< (((x0 >>> ((1 : Int32) &&& 31)) &&& 31) &&& 31)) ^^^ (-1)))), (3, .int ((1 : Int32) <<< (((x0 >>> ((1 : Int32) &&& 31)) &&& 31) &&& 31))), (0, .ref a_g), (1, .int x0), (2, .int x1)]) hx hb d_Guar_putMark_31 hl (by decide) rfl (fun ls hl => ?_)
    refine lv_aload_n hx hb d_Guar_putMark_33 rfl (lv_at hl 2 rfl) ?_
    refine va_get (D := D) (ci := 1) (v := .ref a_gm) (C := "StepMachine$Guard") (T := TX1) (N := 5) hx hb hts inU_1 hown hK hP 0 rfl rfl 3 (by decide) (hts _ a_40) (fun _ h9 => h9) rfl d_Guar_putMark_34 ?_
    refine lv_iload_n hx hb d_Guar_putMark_37 rfl (lv_at hl 3 rfl) ?_
    refine lv_bipush (v := 6) hx hb d_Guar_putMark_38 (by decide) ?_
    refine lv_ishr hx hb d_Guar_putMark_40 ?_
    refine lv_iload_n hx hb d_Guar_putMark_41 rfl (lv_at hl 4 rfl) ?_
    refine lv_if_eq (tgt := 52) hx hb d_Guar_putMark_42 (by decide) (fun c_42 => ?_) (fun c_42 => ?_)
    · skip
      refine lv_iload hx hb d_Guar_putMark_52 (lv_at hl 0 rfl) ?_
      refine va_iast hx hb hK hP hD hS 1 0 rfl rfl (ob_mrk c_4) d_Guar_putMark_54 (fun H locs hP hD hS => ?_)
      have hP : va_P D vwCl [(a_g, .inr (1, [.ref a_gb, .ref a_gs, .ref a_ga, .ref a_gm, .int v_on])), (a_gm, .inl (tc 0, 2048, .inl (upd v_mrk (x0 >>> ((6 : Int32) &&& 31)).toNatClampNeg ((v_mrk (x0 >>> ((6 : Int32) &&& 31)).toNatClampNeg) &&& (((1 : Int32) <<< (((x0 >>> ((1 : Int32) &&& 31)) &&& 31) &&& 31)) ^^^ (-1))))))] H := hP
      have hD : va_D A [(a_g, .inr (1, [.ref a_gb, .ref a_gs, .ref a_ga, .ref a_gm, .int v_on])), (a_gm, .inl (tc 0, 2048, .inl (upd v_mrk (x0 >>> ((6 : Int32) &&& 31)).toNatClampNeg ((v_mrk (x0 >>> ((6 : Int32) &&& 31)).toNatClampNeg) &&& (((1 : Int32) <<< (((x0 >>> ((1 : Int32) &&& 31)) &&& 31) &&& 31)) ^^^ (-1))))))] := hD
      refine lv_iconst (v := 1) hx hb d_Guar_putMark_55 (by decide) ?_
      exact W.zret (v := 1) hx hb hr rfl (fun t ht hW => ⟨⟨_, (upd v_mrk (x0 >>> ((6 : Int32) &&& 31)).toNatClampNeg ((v_mrk (x0 >>> ((6 : Int32) &&& 31)).toNatClampNeg) &&& (((1 : Int32) <<< (((x0 >>> ((1 : Int32) &&& 31)) &&& 31) &&& 31)) ^^^ (-1)))), rfl, by rw [cF_Guard_putMark, if_neg c_4, if_pos c_42], by rw [ht]; exact hP, va_K.moved hW.alike hK, hD⟩, hS.F ht⟩) hS.2.2 d_Guar_putMark_56
    · skip
      refine lv_iload hx hb d_Guar_putMark_45 (lv_at hl 0 rfl) ?_
      refine lv_iload_n hx hb d_Guar_putMark_47 rfl (lv_at hl 1 rfl) ?_
      refine lv_ior hx hb d_Guar_putMark_48 ?_
      refine lv_goto (tgt := 54) hx hb d_Guar_putMark_49 (by decide) ?_
      refine va_iast hx hb hK hP hD hS 1 0 rfl rfl (ob_mrk c_4) d_Guar_putMark_54 (fun H locs hP hD hS => ?_)
      have hP : va_P D vwCl [(a_g, .inr (1, [.ref a_gb, .ref a_gs, .ref a_ga, .ref a_gm, .int v_on])), (a_gm, .inl (tc 0, 2048, .inl (upd v_mrk (x0 >>> ((6 : Int32) &&& 31)).toNatClampNeg (((v_mrk (x0 >>> ((6 : Int32) &&& 31)).toNatClampNeg) &&& (((1 : Int32) <<< (((x0 >>> ((1 : Int32) &&& 31)) &&& 31) &&& 31)) ^^^ (-1))) ||| ((1 : Int32) <<< (((x0 >>> ((1 : Int32) &&& 31)) &&& 31) &&& 31))))))] H := hP
      have hD : va_D A [(a_g, .inr (1, [.ref a_gb, .ref a_gs, .ref a_ga, .ref a_gm, .int v_on])), (a_gm, .inl (tc 0, 2048, .inl (upd v_mrk (x0 >>> ((6 : Int32) &&& 31)).toNatClampNeg (((v_mrk (x0 >>> ((6 : Int32) &&& 31)).toNatClampNeg) &&& (((1 : Int32) <<< (((x0 >>> ((1 : Int32) &&& 31)) &&& 31) &&& 31)) ^^^ (-1))) ||| ((1 : Int32) <<< (((x0 >>> ((1 : Int32) &&& 31)) &&& 31) &&& 31))))))] := hD
      refine lv_iconst (v := 1) hx hb d_Guar_putMark_55 (by decide) ?_
      exact W.zret (v := 1) hx hb hr rfl (fun t ht hW => ⟨⟨_, (upd v_mrk (x0 >>> ((6 : Int32) &&& 31)).toNatClampNeg (((v_mrk (x0 >>> ((6 : Int32) &&& 31)).toNatClampNeg) &&& (((1 : Int32) <<< (((x0 >>> ((1 : Int32) &&& 31)) &&& 31) &&& 31)) ^^^ (-1))) ||| ((1 : Int32) <<< (((x0 >>> ((1 : Int32) &&& 31)) &&& 31) &&& 31)))), rfl, by rw [cF_Guard_putMark, if_neg c_4, if_neg c_42], by rw [ht]; exact hP, va_K.moved hW.alike hK, hD⟩, hS.F ht⟩) hS.2.2 d_Guar_putMark_56
  · skip
    refine lv_iconst (v := 0) hx hb d_Guar_putMark_7 (by decide) ?_
    exact W.zret (v := 0) hx hb hr rfl (fun t ht hW => ⟨⟨_, v_mrk, rfl, by rw [cF_Guard_putMark, if_pos c_4], by rw [ht]; exact hP, va_K.moved hW.alike hK, hD⟩, hS.F ht⟩) hS.2.2 d_Guar_putMark_8
def cF_Guard_putSegment (v_beg : Nat → Int32) (v_siz : Nat → Int32) (v_alw : Nat → Int32) (x0 : Int32) (x1 : Int32) (x2 : Int32) (x3 : Int32) : Int32 × (Nat → Int32) × (Nat → Int32) × (Nat → Int32) := (if x0 < 0 then (0, v_beg, v_siz, v_alw) else (if 8 ≤ x0 then (0, v_beg, v_siz, v_alw) else (if x3 < 0 then (0, v_beg, v_siz, v_alw) else (if x3 ≤ 7 then (if x1 < 0 then (0, v_beg, v_siz, v_alw) else (if x2 < 0 then (0, v_beg, v_siz, v_alw) else (if 131072 < x2 then (0, v_beg, v_siz, v_alw) else (if x1 ≤ (131072 - x2) then (1, (upd v_beg x0.toNatClampNeg x1), (upd v_siz x0.toNatClampNeg x2), (upd v_alw x0.toNatClampNeg x3)) else (0, v_beg, v_siz, v_alw))))) else (0, v_beg, v_siz, v_alw)))))
set_option maxHeartbeats 4000000 in
set_option maxRecDepth 100000 in
theorem cc_Guard_putSegment (l : Launch) (D : va_G) (tc : Nat → ClassId) (tb : Nat → Nat) (z0 : Nat) (sz : Nat) (a_g a_gb a_gs a_ga a_gm : Nat) (v_on : Int32) (v_beg : Nat → Int32) (v_siz : Nat → Int32) (v_alw : Nat → Int32) (x0 : Int32) (x1 : Int32) (x2 : Int32) (x3 : Int32) : Met l y_Guar_putSegment (wM y_Guar_putSegment b_Guar_putSegment 5 (some .boolean)) ({ frames := 0, cells := 0, slots := 0, locals := 0 }) (va_Pc [.ref a_g, .int x0, .int x1, .int x2, .int x3] (Pw D tc tb z0 [(a_g, .inr (1, [.ref a_gb, .ref a_gs, .ref a_ga, .ref a_gm, .int v_on])), (a_gb, .inl (tc 0, 8, .inl v_beg)), (a_gs, .inl (tc 0, 8, .inl v_siz)), (a_ga, .inl (tc 0, 8, .inl v_alw))] sz)) (va_Qi (fun (r : Int32) (u : (Nat → Int32) × (Nat → Int32) × (Nat → Int32)) => (r, u) = (cF_Guard_putSegment v_beg v_siz v_alw x0 x1 x2 x3)) (Bw D tc (va_A [(a_g, .inr (1, [.ref a_gb, .ref a_gs, .ref a_ga, .ref a_gm, .int v_on])), (a_gb, .inl (tc 0, 8, .inl v_beg)), (a_gs, .inl (tc 0, 8, .inl v_siz)), (a_ga, .inl (tc 0, 8, .inl v_alw))] sz) (fun u => [(a_g, .inr (1, [.ref a_gb, .ref a_gs, .ref a_ga, .ref a_gm, .int v_on])), (a_gb, .inl (tc 0, 8, .inl u.1)), (a_gs, .inl (tc 0, 8, .inl u.2.1)), (a_ga, .inl (tc 0, 8, .inl u.2.2))])) (va_A [(a_g, .inr (1, [.ref a_gb, .ref a_gs, .ref a_ga, .ref a_gm, .int v_on])), (a_gb, .inl (tc 0, 8, .inl v_beg)), (a_gs, .inl (tc 0, 8, .inl v_siz)), (a_ga, .inl (tc 0, 8, .inl v_alw))] sz)) 0 0 (va_A [(a_g, .inr (1, [.ref a_gb, .ref a_gs, .ref a_ga, .ref a_gm, .int v_on])), (a_gb, .inl (tc 0, 8, .inl v_beg)), (a_gs, .inl (tc 0, 8, .inl v_siz)), (a_ga, .inl (tc 0, 8, .inl v_alw))] sz) := by
  refine Met.ofW (cc := b_Guar_putSegment) (maxL := 5) (ret := (some .boolean)) (by decide) rfl ?_
  intro p e s m args below meth c s₁ B hml hv
  obtain ⟨rfl, hsz, hP, hK, hB, hD0, hZ0⟩ := hv
  have hx := B.exec
  have hb := B.bytes
  have hr := B.returns
  have hts : ∀ w ∈ wALL, w.before _ s = true := fun w h => atoms_spec (ws := (wM y_Guar_putSegment b_Guar_putSegment 5 (some .boolean))) B.pre w (List.mem_cons_of_mem _ h)
  have hown : s.vm.findClass "StepMachine$Guard" = some m.cls := findClass_of_methodNamed B.named
  have hlocks := B.notSynchronized
  subst hsz
  have hD := hD0.self (sz := s.heap.size)
  generalize hAe : va_A [(a_g, .inr (1, [.ref a_gb, .ref a_gs, .ref a_ga, .ref a_gm, .int v_on])), (a_gb, .inl (tc 0, 8, .inl v_beg)), (a_gs, .inl (tc 0, 8, .inl v_siz)), (a_ga, .inl (tc 0, 8, .inl v_alw))] s.heap.size = A at hD ⊢
  have hZ : ∀ q : Nat, A q → z0 ≤ q := by rw [← hAe]; exact hZ0
  have hA : ∀ q : Nat, s.heap.size ≤ q → A q := fun q h => by rw [← hAe]; exact Or.inr h
  have hS : va_S A s.heap s.heap [] := va_S.rf
  have hl := lv_entry ([.ref a_g, .int x0, .int x1, .int x2, .int x3]) (n := 5) (Nat.le_of_ble_eq_true rfl)
  rw [lg_entry_eq]
  generalize (lg_sl ([.ref a_g, .int x0, .int x1, .int x2, .int x3]) ++ List.replicate (5 - (lg_sl ([.ref a_g, .int x0, .int x1, .int x2, .int x3])).length) Slot.unset).toArray = ls at hl ⊢
  have hl : lv_has ls 5 [(0, .ref a_g), (1, .int x0), (2, .int x1), (3, .int x2), (4, .int x3)] := hl
  refine lv_iload_n hx hb d_Guar_putSegment_0 rfl (lv_at hl 1 rfl) ?_
  refine lv_if_lt (tgt := 22) hx hb d_Guar_putSegment_1 (by decide) (fun c_1 => ?_) (fun c_1 => ?_)
  · skip
    refine lv_iconst (v := 0) hx hb d_Guar_putSegment_22 (by decide) ?_
    exact W.zret (v := 0) hx hb hr rfl (fun t ht hW => ⟨⟨_, (v_beg, v_siz, v_alw), rfl, by rw [cF_Guard_putSegment, if_pos c_1], by rw [ht]; exact hP, va_K.moved hW.alike hK, hD⟩, hS.F ht⟩) hS.2.2 d_Guar_putSegment_23
  · skip
    refine lv_iload_n hx hb d_Guar_putSegment_4 rfl (lv_at hl 1 rfl) ?_
    refine lv_bipush (v := 8) hx hb d_Guar_putSegment_5 (by decide) ?_
    refine lv_icmp_ge (tgt := 22) hx hb d_Guar_putSegment_7 (by decide) (fun c_7 => ?_) (fun c_7 => ?_)
    · skip
      refine lv_iconst (v := 0) hx hb d_Guar_putSegment_22 (by decide) ?_
      exact W.zret (v := 0) hx hb hr rfl (fun t ht hW => ⟨⟨_, (v_beg, v_siz, v_alw), rfl, by rw [cF_Guard_putSegment, if_neg c_1, if_pos c_7], by rw [ht]; exact hP, va_K.moved hW.alike hK, hD⟩, hS.F ht⟩) hS.2.2 d_Guar_putSegment_23
    · skip
      refine lv_iload hx hb d_Guar_putSegment_10 (lv_at hl 4 rfl) ?_
      refine lv_if_lt (tgt := 22) hx hb d_Guar_putSegment_12 (by decide) (fun c_12 => ?_) (fun c_12 => ?_)
      · skip
        refine lv_iconst (v := 0) hx hb d_Guar_putSegment_22 (by decide) ?_
        exact W.zret (v := 0) hx hb hr rfl (fun t ht hW => ⟨⟨_, (v_beg, v_siz, v_alw), rfl, by rw [cF_Guard_putSegment, if_neg c_1, if_neg c_7, if_pos c_12], by rw [ht]; exact hP, va_K.moved hW.alike hK, hD⟩, hS.F ht⟩) hS.2.2 d_Guar_putSegment_23
      · skip
        refine lv_iload hx hb d_Guar_putSegment_15 (lv_at hl 4 rfl) ?_
        refine lv_bipush (v := 7) hx hb d_Guar_putSegment_17 (by decide) ?_
        refine lv_icmp_le (tgt := 24) hx hb d_Guar_putSegment_19 (by decide) (fun c_19 => ?_) (fun c_19 => ?_)
        · skip
          refine lv_iload_n hx hb d_Guar_putSegment_24 rfl (lv_at hl 2 rfl) ?_
          refine lv_if_lt (tgt := 46) hx hb d_Guar_putSegment_25 (by decide) (fun c_25 => ?_) (fun c_25 => ?_)
          · skip
            refine lv_iconst (v := 0) hx hb d_Guar_putSegment_46 (by decide) ?_
            exact W.zret (v := 0) hx hb hr rfl (fun t ht hW => ⟨⟨_, (v_beg, v_siz, v_alw), rfl, by rw [cF_Guard_putSegment, if_neg c_1, if_neg c_7, if_neg c_12, if_pos c_19, if_pos c_25], by rw [ht]; exact hP, va_K.moved hW.alike hK, hD⟩, hS.F ht⟩) hS.2.2 d_Guar_putSegment_47
          · skip
            refine lv_iload_n hx hb d_Guar_putSegment_28 rfl (lv_at hl 3 rfl) ?_
            refine lv_if_lt (tgt := 46) hx hb d_Guar_putSegment_29 (by decide) (fun c_29 => ?_) (fun c_29 => ?_)
            · skip
              refine lv_iconst (v := 0) hx hb d_Guar_putSegment_46 (by decide) ?_
              exact W.zret (v := 0) hx hb hr rfl (fun t ht hW => ⟨⟨_, (v_beg, v_siz, v_alw), rfl, by rw [cF_Guard_putSegment, if_neg c_1, if_neg c_7, if_neg c_12, if_pos c_19, if_neg c_25, if_pos c_29], by rw [ht]; exact hP, va_K.moved hW.alike hK, hD⟩, hS.F ht⟩) hS.2.2 d_Guar_putSegment_47
            · skip
              refine lv_iload_n hx hb d_Guar_putSegment_32 rfl (lv_at hl 3 rfl) ?_
              refine lv_ldc (v := 131072) hx hb hown (hts _ a_200) d_Guar_putSegment_33 ?_
              refine lv_icmp_gt (tgt := 46) hx hb d_Guar_putSegment_35 (by decide) (fun c_35 => ?_) (fun c_35 => ?_)
              · skip
                refine lv_iconst (v := 0) hx hb d_Guar_putSegment_46 (by decide) ?_
                exact W.zret (v := 0) hx hb hr rfl (fun t ht hW => ⟨⟨_, (v_beg, v_siz, v_alw), rfl, by rw [cF_Guard_putSegment, if_neg c_1, if_neg c_7, if_neg c_12, if_pos c_19, if_neg c_25, if_neg c_29, if_pos c_35], by rw [ht]; exact hP, va_K.moved hW.alike hK, hD⟩, hS.F ht⟩) hS.2.2 d_Guar_putSegment_47
              · skip
                refine lv_iload_n hx hb d_Guar_putSegment_38 rfl (lv_at hl 2 rfl) ?_
                refine lv_ldc (v := 131072) hx hb hown (hts _ a_200) d_Guar_putSegment_39 ?_
                refine lv_iload_n hx hb d_Guar_putSegment_41 rfl (lv_at hl 3 rfl) ?_
                refine lv_isub hx hb d_Guar_putSegment_42 ?_
                refine lv_icmp_le (tgt := 48) hx hb d_Guar_putSegment_43 (by decide) (fun c_43 => ?_) (fun c_43 => ?_)
                · skip
                  refine lv_aload_n hx hb d_Guar_putSegment_48 rfl (lv_at hl 0 rfl) ?_
                  refine va_get (D := D) (ci := 1) (v := .ref a_gb) (C := "StepMachine$Guard") (T := TX1) (N := 5) hx hb hts inU_1 hown hK hP 0 rfl rfl 0 (by decide) (hts _ a_37) (fun _ h9 => h9) rfl d_Guar_putSegment_49 ?_
                  refine lv_iload_n hx hb d_Guar_putSegment_52 rfl (lv_at hl 1 rfl) ?_
                  refine lv_iload_n hx hb d_Guar_putSegment_53 rfl (lv_at hl 2 rfl) ?_
                  refine va_iast hx hb hK hP hD hS 1 0 rfl rfl (ob_in8 c_1 c_7) d_Guar_putSegment_54 (fun H locs hP hD hS => ?_)
                  have hP : va_P D vwCl [(a_g, .inr (1, [.ref a_gb, .ref a_gs, .ref a_ga, .ref a_gm, .int v_on])), (a_gb, .inl (tc 0, 8, .inl (upd v_beg x0.toNatClampNeg x1))), (a_gs, .inl (tc 0, 8, .inl v_siz)), (a_ga, .inl (tc 0, 8, .inl v_alw))] H := hP
                  have hD : va_D A [(a_g, .inr (1, [.ref a_gb, .ref a_gs, .ref a_ga, .ref a_gm, .int v_on])), (a_gb, .inl (tc 0, 8, .inl (upd v_beg x0.toNatClampNeg x1))), (a_gs, .inl (tc 0, 8, .inl v_siz)), (a_ga, .inl (tc 0, 8, .inl v_alw))] := hD
                  refine lv_aload_n hx hb d_Guar_putSegment_55 rfl (lv_at hl 0 rfl) ?_
                  refine va_get (D := D) (ci := 1) (v := .ref a_gs) (C := "StepMachine$Guard") (T := TX1) (N := 5) hx hb hts inU_1 hown hK hP 0 rfl rfl 1 (by decide) (hts _ a_38) (fun _ h9 => h9) rfl d_Guar_putSegment_56 ?_
                  refine lv_iload_n hx hb d_Guar_putSegment_59 rfl (lv_at hl 1 rfl) ?_
                  refine lv_iload_n hx hb d_Guar_putSegment_60 rfl (lv_at hl 3 rfl) ?_
                  refine va_iast hx hb hK hP hD hS 2 0 rfl rfl (ob_in8 c_1 c_7) d_Guar_putSegment_61 (fun H locs hP hD hS => ?_)
                  have hP : va_P D vwCl [(a_g, .inr (1, [.ref a_gb, .ref a_gs, .ref a_ga, .ref a_gm, .int v_on])), (a_gb, .inl (tc 0, 8, .inl (upd v_beg x0.toNatClampNeg x1))), (a_gs, .inl (tc 0, 8, .inl (upd v_siz x0.toNatClampNeg x2))), (a_ga, .inl (tc 0, 8, .inl v_alw))] H := hP
                  have hD : va_D A [(a_g, .inr (1, [.ref a_gb, .ref a_gs, .ref a_ga, .ref a_gm, .int v_on])), (a_gb, .inl (tc 0, 8, .inl (upd v_beg x0.toNatClampNeg x1))), (a_gs, .inl (tc 0, 8, .inl (upd v_siz x0.toNatClampNeg x2))), (a_ga, .inl (tc 0, 8, .inl v_alw))] := hD
                  refine lv_aload_n hx hb d_Guar_putSegment_62 rfl (lv_at hl 0 rfl) ?_
                  refine va_get (D := D) (ci := 1) (v := .ref a_ga) (C := "StepMachine$Guard") (T := TX1) (N := 5) hx hb hts inU_1 hown hK hP 0 rfl rfl 2 (by decide) (hts _ a_39) (fun _ h9 => h9) rfl d_Guar_putSegment_63 ?_
                  refine lv_iload_n hx hb d_Guar_putSegment_66 rfl (lv_at hl 1 rfl) ?_
                  refine lv_iload hx hb d_Guar_putSegment_67 (lv_at hl 4 rfl) ?_
                  refine va_iast hx hb hK hP hD hS 3 0 rfl rfl (ob_in8 c_1 c_7) d_Guar_putSegment_69 (fun H locs hP hD hS => ?_)
                  have hP : va_P D vwCl [(a_g, .inr (1, [.ref a_gb, .ref a_gs, .ref a_ga, .ref a_gm, .int v_on])), (a_gb, .inl (tc 0, 8, .inl (upd v_beg x0.toNatClampNeg x1))), (a_gs, .inl (tc 0, 8, .inl (upd v_siz x0.toNatClampNeg x2))), (a_ga, .inl (tc 0, 8, .inl (upd v_alw x0.toNatClampNeg x3)))] H := hP
                  have hD : va_D A [(a_g, .inr (1, [.ref a_gb, .ref a_gs, .ref a_ga, .ref a_gm, .int v_on])), (a_gb, .inl (tc 0, 8, .inl (upd v_beg x0.toNatClampNeg x1))), (a_gs, .inl (tc 0, 8, .inl (upd v_siz x0.toNatClampNeg x2))), (a_ga, .inl (tc 0, 8, .inl (upd v_alw x0.toNatClampNeg x3)))] := hD
                  refine lv_iconst (v := 1) hx hb d_Guar_putSegment_70 (by decide) ?_
                  exact W.zret (v := 1) hx hb hr rfl (fun t ht hW => ⟨⟨_, ((upd v_beg x0.toNatClampNeg x1), (upd v_siz x0.toNatClampNeg x2), (upd v_alw x0.toNatClampNeg x3)), rfl, by rw [cF_Guard_putSegment, if_neg c_1, if_neg c_7, if_neg c_12, if_pos c_19, if_neg c_25, if_neg c_29, if_neg c_35, if_pos c_43], by rw [ht]; exact hP, va_K.moved hW.alike hK, hD⟩, hS.F ht⟩) hS.2.2 d_Guar_putSegment_71
                · skip
                  refine lv_iconst (v := 0) hx hb d_Guar_putSegment_46 (by decide) ?_
                  exact W.zret (v := 0) hx hb hr rfl (fun t ht hW => ⟨⟨_, (v_beg, v_siz, v_alw), rfl, by rw [cF_Guard_putSegment, if_neg c_1, if_neg c_7, if_neg c_12, if_pos c_19, if_neg c_25, if_neg c_29, if_neg c_35, if_neg c_43], by rw [ht]; exact hP, va_K.moved hW.alike hK, hD⟩, hS.F ht⟩) hS.2.2 d_Guar_putSegment_47
        · skip
          refine lv_iconst (v := 0) hx hb d_Guar_putSegment_22 (by decide) ?_
          exact W.zret (v := 0) hx hb hr rfl (fun t ht hW => ⟨⟨_, (v_beg, v_siz, v_alw), rfl, by rw [cF_Guard_putSegment, if_neg c_1, if_neg c_7, if_neg c_12, if_neg c_19], by rw [ht]; exact hP, va_K.moved hW.alike hK, hD⟩, hS.F ht⟩) hS.2.2 d_Guar_putSegment_23
def cF_Guard_rightsAt_L2 (v_beg : Nat → Int32) (v_siz : Nat → Int32) (v_alw : Nat → Int32) (x0 : Int32) : Nat → Int32 → Int32
  | 0, _ => 0
  | n + 1, k_i => (if 8 ≤ k_i then 0 else (if x0 < (v_beg k_i.toNatClampNeg) then ((cF_Guard_rightsAt_L2 v_beg v_siz v_alw x0 n) (k_i + 1)) else (if (v_siz k_i.toNatClampNeg) ≤ (x0 - (v_beg k_i.toNatClampNeg)) then ((cF_Guard_rightsAt_L2 v_beg v_siz v_alw x0 n) (k_i + 1)) else (v_alw k_i.toNatClampNeg))))
def cF_Guard_rightsAt (v_beg : Nat → Int32) (v_siz : Nat → Int32) (v_alw : Nat → Int32) (x0 : Int32) : Int32 := (cF_Guard_rightsAt_L2 v_beg v_siz v_alw x0 ((8 : Int32).toNatClampNeg + 1) 0)
set_option maxHeartbeats 4000000 in
set_option maxRecDepth 100000 in
theorem cc_Guard_rightsAt (l : Launch) (D : va_G) (tc : Nat → ClassId) (tb : Nat → Nat) (z0 : Nat) (a_g a_gb a_gs a_ga a_gm : Nat) (v_on : Int32) (v_beg : Nat → Int32) (v_siz : Nat → Int32) (v_alw : Nat → Int32) (x0 : Int32) : Met l y_Guar_rightsAt (wM y_Guar_rightsAt b_Guar_rightsAt 3 (some .int)) ({ frames := 0, cells := 0, slots := 0, locals := 0 }) (va_Pc [.ref a_g, .int x0] (Pr D tc tb z0 [(a_g, .inr (1, [.ref a_gb, .ref a_gs, .ref a_ga, .ref a_gm, .int v_on])), (a_gb, .inl (tc 0, 8, .inl v_beg)), (a_gs, .inl (tc 0, 8, .inl v_siz)), (a_ga, .inl (tc 0, 8, .inl v_alw))])) (vp_Si (fun r => r = (cF_Guard_rightsAt v_beg v_siz v_alw x0))) 0 0 (fun _ => False) := by
  refine Met.ofW (cc := b_Guar_rightsAt) (maxL := 3) (ret := (some .int)) (by decide) rfl ?_
  intro p e s m args below meth c s₁ B hml hv
  obtain ⟨rfl, hP, hK, hB⟩ := hv
  have hx := B.exec
  have hb := B.bytes
  have hr := B.returns
  have hts : ∀ w ∈ wALL, w.before _ s = true := fun w h => atoms_spec (ws := (wM y_Guar_rightsAt b_Guar_rightsAt 3 (some .int))) B.pre w (List.mem_cons_of_mem _ h)
  have hown : s.vm.findClass "StepMachine$Guard" = some m.cls := findClass_of_methodNamed B.named
  have hlocks := B.notSynchronized
  have hl := lv_entry ([.ref a_g, .int x0]) (n := 3) (Nat.le_of_ble_eq_true rfl)
  rw [lg_entry_eq]
  generalize (lg_sl ([.ref a_g, .int x0]) ++ List.replicate (3 - (lg_sl ([.ref a_g, .int x0])).length) Slot.unset).toArray = ls at hl ⊢
  have hl : lv_has ls 3 [(0, .ref a_g), (1, .int x0)] := hl
  refine lv_iconst (v := 0) hx hb d_Guar_rightsAt_0 (by decide) ?_
  refine lv_istore_n (lv' := [(2, .int 0), (0, .ref a_g), (1, .int x0)]) hx hb d_Guar_rightsAt_1 rfl hl (by decide) rfl (fun ls hl => ?_)
  have loop : ∀ (n i : Nat) (ls : Array Slot), i ≤ (8 : Int32).toNatClampNeg → (8 : Int32).toNatClampNeg + 1 ≤ i + n → cF_Guard_rightsAt_L2 v_beg v_siz v_alw x0 n (nI i)  = (cF_Guard_rightsAt v_beg v_siz v_alw x0) → lv_has ls 3 [(2, .int (nI i)), (0, .ref a_g), (1, .int x0)] → W p l e (headSpec (wM y_Guar_rightsAt b_Guar_rightsAt 3 (some .int)) ({ frames := 0, cells := 0, slots := 0, locals := 0 })).room s m ([.ref a_g, .int x0]).toArray below meth c s.heap [] 0 0 (MQ below (vp_Si (fun r => r = (cF_Guard_rightsAt v_beg v_siz v_alw x0))) ([.ref a_g, .int x0]).toArray s 0 0 (fun _ => False)) (F0 m 2 ls []) := by
    intro n
    induction n with
    | zero =>
      intro i ls h1 h2
      exact absurd h2 (by omega)
    | succ n ih =>
      intro i ls hi hn hF hl
      refine lv_iload_n hx hb d_Guar_rightsAt_2 rfl (lv_at hl 0 rfl) ?_
      refine lv_bipush (v := 8) hx hb d_Guar_rightsAt_3 (by decide) ?_
      refine lv_icmp_ge (tgt := 48) hx hb d_Guar_rightsAt_5 (by decide) (fun c_5 => ?_) (fun c_5 => ?_)
      · skip
        refine lv_iconst (v := 0) hx hb d_Guar_rightsAt_48 (by decide) ?_
        exact W.iret (v := 0) hx hb hr (fun t ht hW => ⟨_, rfl, by rw [← hF, cF_Guard_rightsAt_L2, if_pos c_5], ht⟩) (fun q h => by cases h) d_Guar_rightsAt_49
      · skip
        refine lv_iload_n hx hb d_Guar_rightsAt_8 rfl (lv_at hl 2 rfl) ?_
        refine lv_aload_n hx hb d_Guar_rightsAt_9 rfl (lv_at hl 1 rfl) ?_
        refine va_get (D := D) (ci := 1) (v := .ref a_gb) (C := "StepMachine$Guard") (T := TX1) (N := 5) hx hb hts inU_1 hown hK hP 0 rfl rfl 0 (by decide) (hts _ a_37) (fun _ h9 => h9) rfl d_Guar_rightsAt_10 ?_
        refine lv_iload_n hx hb d_Guar_rightsAt_13 rfl (lv_at hl 0 rfl) ?_
        refine va_iald hx hb hK hP 1 0 rfl rfl (ob_lp8 hi c_5) d_Guar_rightsAt_14 ?_
        refine lv_icmp_lt (tgt := 42) hx hb d_Guar_rightsAt_15 (by decide) (fun c_15 => ?_) (fun c_15 => ?_)
        · skip
          refine lv_iinc (v := ((nI i) + 1)) (lv' := [(2, .int ((nI i) + 1)), (0, .ref a_g), (1, .int x0)]) hx hb d_Guar_rightsAt_42 hl (k := 0) rfl rfl (by decide) rfl (fun ls hl => ?_)
          refine lv_goto (tgt := 2) hx hb d_Guar_rightsAt_45 (by decide) ?_
          exact ih (i + 1) ls (lp_lt c_5 hi) (by omega) (by rw [← hF, cF_Guard_rightsAt_L2, if_neg c_5, if_pos c_15, nI_1]) (by have h := lv_sub hl (l' := [(2, .int ((nI i) + 1)), (0, .ref a_g), (1, .int x0)]) [0, 1, 2] rfl; rw [nI_1] at h; exact h)
        · skip
          refine lv_iload_n hx hb d_Guar_rightsAt_18 rfl (lv_at hl 2 rfl) ?_
          refine lv_aload_n hx hb d_Guar_rightsAt_19 rfl (lv_at hl 1 rfl) ?_
          refine va_get (D := D) (ci := 1) (v := .ref a_gb) (C := "StepMachine$Guard") (T := TX1) (N := 5) hx hb hts inU_1 hown hK hP 0 rfl rfl 0 (by decide) (hts _ a_37) (fun _ h9 => h9) rfl d_Guar_rightsAt_20 ?_
          refine lv_iload_n hx hb d_Guar_rightsAt_23 rfl (lv_at hl 0 rfl) ?_
          refine va_iald hx hb hK hP 1 0 rfl rfl (ob_lp8 hi c_5) d_Guar_rightsAt_24 ?_
          refine lv_isub hx hb d_Guar_rightsAt_25 ?_
          refine lv_aload_n hx hb d_Guar_rightsAt_26 rfl (lv_at hl 1 rfl) ?_
          refine va_get (D := D) (ci := 1) (v := .ref a_gs) (C := "StepMachine$Guard") (T := TX1) (N := 5) hx hb hts inU_1 hown hK hP 0 rfl rfl 1 (by decide) (hts _ a_38) (fun _ h9 => h9) rfl d_Guar_rightsAt_27 ?_
          refine lv_iload_n hx hb d_Guar_rightsAt_30 rfl (lv_at hl 0 rfl) ?_
          refine va_iald hx hb hK hP 2 0 rfl rfl (ob_lp8 hi c_5) d_Guar_rightsAt_31 ?_
          refine lv_icmp_ge (tgt := 42) hx hb d_Guar_rightsAt_32 (by decide) (fun c_32 => ?_) (fun c_32 => ?_)
          · skip
            refine lv_iinc (v := ((nI i) + 1)) (lv' := [(2, .int ((nI i) + 1)), (0, .ref a_g), (1, .int x0)]) hx hb d_Guar_rightsAt_42 hl (k := 0) rfl rfl (by decide) rfl (fun ls hl => ?_)
            refine lv_goto (tgt := 2) hx hb d_Guar_rightsAt_45 (by decide) ?_
            exact ih (i + 1) ls (lp_lt c_5 hi) (by omega) (by rw [← hF, cF_Guard_rightsAt_L2, if_neg c_5, if_neg c_15, if_pos c_32, nI_1]) (by have h := lv_sub hl (l' := [(2, .int ((nI i) + 1)), (0, .ref a_g), (1, .int x0)]) [0, 1, 2] rfl; rw [nI_1] at h; exact h)
          · skip
            refine lv_aload_n hx hb d_Guar_rightsAt_35 rfl (lv_at hl 1 rfl) ?_
            refine va_get (D := D) (ci := 1) (v := .ref a_ga) (C := "StepMachine$Guard") (T := TX1) (N := 5) hx hb hts inU_1 hown hK hP 0 rfl rfl 2 (by decide) (hts _ a_39) (fun _ h9 => h9) rfl d_Guar_rightsAt_36 ?_
            refine lv_iload_n hx hb d_Guar_rightsAt_39 rfl (lv_at hl 0 rfl) ?_
            refine va_iald hx hb hK hP 3 0 rfl rfl (ob_lp8 hi c_5) d_Guar_rightsAt_40 ?_
            exact W.iret (v := (v_alw (nI i).toNatClampNeg)) hx hb hr (fun t ht hW => ⟨_, rfl, by rw [← hF, cF_Guard_rightsAt_L2, if_neg c_5, if_neg c_15, if_neg c_32], ht⟩) (fun q h => by cases h) d_Guar_rightsAt_41
  exact loop ((8 : Int32).toNatClampNeg + 1) 0 ls (Nat.zero_le _) (by omega) (by rw [cF_Guard_rightsAt, nI_0]) (by rw [nI_0]; exact lv_sub hl [0, 1, 2] rfl)
def cF_Guard_firstWithout_L3 (v_beg : Nat → Int32) (v_siz : Nat → Int32) (v_alw : Nat → Int32) (x0 : Int32) (x1 : Int32) (x2 : Int32) : Nat → Int32 → Int32
  | 0, _ => 0
  | n + 1, k_i => (if x2 ≤ k_i then (-1) else (if ((cF_Guard_rightsAt v_beg v_siz v_alw (x1 + k_i)) &&& x0) = 0 then k_i else ((cF_Guard_firstWithout_L3 v_beg v_siz v_alw x0 x1 x2 n) (k_i + 1))))
def cF_Guard_firstWithout (v_beg : Nat → Int32) (v_siz : Nat → Int32) (v_alw : Nat → Int32) (x0 : Int32) (x1 : Int32) (x2 : Int32) : Int32 := (cF_Guard_firstWithout_L3 v_beg v_siz v_alw x0 x1 x2 (x2.toNatClampNeg + 1) 0)
set_option maxHeartbeats 4000000 in
set_option maxRecDepth 100000 in
theorem cc_Guard_firstWithout (l : Launch) (D : va_G) (tc : Nat → ClassId) (tb : Nat → Nat) (z0 : Nat) (a_g a_gb a_gs a_ga a_gm : Nat) (v_on : Int32) (v_beg : Nat → Int32) (v_siz : Nat → Int32) (v_alw : Nat → Int32) (x0 : Int32) (x1 : Int32) (x2 : Int32) : Met l y_Guar_firstWithout (wM y_Guar_firstWithout b_Guar_firstWithout 5 (some .int)) ({ frames := 1, cells := 0, slots := 0, locals := 22 }) (va_Pc [.ref a_g, .int x0, .int x1, .int x2] (Pr D tc tb z0 [(a_g, .inr (1, [.ref a_gb, .ref a_gs, .ref a_ga, .ref a_gm, .int v_on])), (a_gb, .inl (tc 0, 8, .inl v_beg)), (a_gs, .inl (tc 0, 8, .inl v_siz)), (a_ga, .inl (tc 0, 8, .inl v_alw))])) (vp_Si (fun r => r = (cF_Guard_firstWithout v_beg v_siz v_alw x0 x1 x2))) 0 0 (fun _ => False) := by
  refine Met.ofW (cc := b_Guar_firstWithout) (maxL := 5) (ret := (some .int)) (by decide) rfl ?_
  intro p e s m args below meth c s₁ B hml hv
  obtain ⟨rfl, hP, hK, hB⟩ := hv
  have hx := B.exec
  have hb := B.bytes
  have hr := B.returns
  have hts : ∀ w ∈ wALL, w.before _ s = true := fun w h => atoms_spec (ws := (wM y_Guar_firstWithout b_Guar_firstWithout 5 (some .int))) B.pre w (List.mem_cons_of_mem _ h)
  have hown : s.vm.findClass "StepMachine$Guard" = some m.cls := findClass_of_methodNamed B.named
  have hlocks := B.notSynchronized
  have hl := lv_entry ([.ref a_g, .int x0, .int x1, .int x2]) (n := 5) (Nat.le_of_ble_eq_true rfl)
  rw [lg_entry_eq]
  generalize (lg_sl ([.ref a_g, .int x0, .int x1, .int x2]) ++ List.replicate (5 - (lg_sl ([.ref a_g, .int x0, .int x1, .int x2])).length) Slot.unset).toArray = ls at hl ⊢
  have hl : lv_has ls 5 [(0, .ref a_g), (1, .int x0), (2, .int x1), (3, .int x2)] := hl
  refine lv_iconst (v := 0) hx hb d_Guar_firstWithout_0 (by decide) ?_
  refine lv_istore (lv' := [(4, .int 0), (0, .ref a_g), (1, .int x0), (2, .int x1), (3, .int x2)]) hx hb d_Guar_firstWithout_1 hl (by decide) rfl (fun ls hl => ?_)
  have loop : ∀ (n i : Nat) (ls : Array Slot), i ≤ x2.toNatClampNeg → x2.toNatClampNeg + 1 ≤ i + n → cF_Guard_firstWithout_L3 v_beg v_siz v_alw x0 x1 x2 n (nI i)  = (cF_Guard_firstWithout v_beg v_siz v_alw x0 x1 x2) → lv_has ls 5 [(4, .int (nI i)), (0, .ref a_g), (1, .int x0), (2, .int x1), (3, .int x2)] → W p l e (headSpec (wM y_Guar_firstWithout b_Guar_firstWithout 5 (some .int)) ({ frames := 1, cells := 0, slots := 0, locals := 22 })).room s m ([.ref a_g, .int x0, .int x1, .int x2]).toArray below meth c s.heap [] 0 0 (MQ below (vp_Si (fun r => r = (cF_Guard_firstWithout v_beg v_siz v_alw x0 x1 x2))) ([.ref a_g, .int x0, .int x1, .int x2]).toArray s 0 0 (fun _ => False)) (F0 m 3 ls []) := by
    intro n
    induction n with
    | zero =>
      intro i ls h1 h2
      exact absurd h2 (by omega)
    | succ n ih =>
      intro i ls hi hn hF hl
      refine lv_iload hx hb d_Guar_firstWithout_3 (lv_at hl 0 rfl) ?_
      refine lv_iload_n hx hb d_Guar_firstWithout_5 rfl (lv_at hl 4 rfl) ?_
      refine lv_icmp_ge (tgt := 31) hx hb d_Guar_firstWithout_6 (by decide) (fun c_6 => ?_) (fun c_6 => ?_)
      · skip
        refine lv_iconst (v := (-1)) hx hb d_Guar_firstWithout_31 (by decide) ?_
        exact W.iret (v := (-1)) hx hb hr (fun t ht hW => ⟨_, rfl, by rw [← hF, cF_Guard_firstWithout_L3, if_pos c_6], ht⟩) (fun q h => by cases h) d_Guar_firstWithout_32
      · skip
        refine lv_aload_n hx hb d_Guar_firstWithout_9 rfl (lv_at hl 1 rfl) ?_
        refine lv_iload_n hx hb d_Guar_firstWithout_10 rfl (lv_at hl 3 rfl) ?_
        refine lv_iload hx hb d_Guar_firstWithout_11 (lv_at hl 0 rfl) ?_
        refine lv_iadd hx hb d_Guar_firstWithout_13 ?_
        refine roVi (As := [.int (x1 + (nI i))]) (rest := []) ⟨hx, hb, hml, hown, hts⟩ (cc_Guard_rightsAt l D tc tb z0 a_g a_gb a_gs a_ga a_gm v_on v_beg v_siz v_alw (x1 + (nI i))) (cwV 1 hts (goodV a_340 a_341 a_342 a_3 a_343) rfl rfl rfl hv_Guar_rightsAt ⟨Nat.le_of_ble_eq_true rfl, Nat.le_of_ble_eq_true rfl⟩) (hP.sub [0, 1, 2, 3] rfl) hK hB rfl rfl rfl hl.1 rfl (Nat.le_of_ble_eq_true rfl) d_Guar_firstWithout_14 ⟨Nat.zero_le _, Nat.zero_le _⟩ ?_
        refine lv_iload_n hx hb d_Guar_firstWithout_17 rfl (lv_at hl 2 rfl) ?_
        refine lv_iand hx hb d_Guar_firstWithout_18 ?_
        refine lv_if_ne (tgt := 25) hx hb d_Guar_firstWithout_19 (by decide) (fun c_19 => ?_) (fun c_19 => ?_)
        · skip
          refine lv_iinc (v := ((nI i) + 1)) (lv' := [(4, .int ((nI i) + 1)), (0, .ref a_g), (1, .int x0), (2, .int x1), (3, .int x2)]) hx hb d_Guar_firstWithout_25 hl (k := 0) rfl rfl (by decide) rfl (fun ls hl => ?_)
          refine lv_goto (tgt := 3) hx hb d_Guar_firstWithout_28 (by decide) ?_
          exact ih (i + 1) ls (lp_lt c_6 hi) (by omega) (by rw [← hF, cF_Guard_firstWithout_L3, if_neg c_6, if_neg c_19, nI_1]) (by have h := lv_sub hl (l' := [(4, .int ((nI i) + 1)), (0, .ref a_g), (1, .int x0), (2, .int x1), (3, .int x2)]) [0, 1, 2, 3, 4] rfl; rw [nI_1] at h; exact h)
        · skip
          refine lv_iload hx hb d_Guar_firstWithout_22 (lv_at hl 0 rfl) ?_
          exact W.iret (v := (nI i)) hx hb hr (fun t ht hW => ⟨_, rfl, by rw [← hF, cF_Guard_firstWithout_L3, if_neg c_6, if_pos c_19], ht⟩) (fun q h => by cases h) d_Guar_firstWithout_24
  exact loop (x2.toNatClampNeg + 1) 0 ls (Nat.zero_le _) (by omega) (by rw [cF_Guard_firstWithout, nI_0]) (by rw [nI_0]; exact lv_sub hl [0, 1, 2, 3, 4] rfl)
