theorem ob_nx {x : Int32} (h : 0 ≤ x.toInt ∧ x.toInt ≤ 99) : vp_in x 100 := by
  rw [vp_in_iff]
  omega
theorem ob_nxj {x : Int32} (h : 0 ≤ x.toInt ∧ x.toInt ≤ 99) : x.toNatClampNeg < 100 := by
  have h0 : x.toNatClampNeg = x.toInt.toNat := rfl
  omega
theorem ob_nxd {x : Int32} (h : 0 ≤ x.toInt ∧ x.toInt ≤ 99) (h1 : ¬ x ≤ 0) : 0 ≤ (x - 1).toInt ∧ (x - 1).toInt ≤ 99 := by
  have a := ob_nle h1
  have e0 : (0 : Int32).toInt = 0 := by decide
  have h0 : x.toNatClampNeg = x.toInt.toNat := rfl
  have e : x = nI x.toNatClampNeg := by
    apply Int32.toInt_inj.mp
    rw [nI_toInt (by omega)]
    omega
  rw [e, show (1 : Int32) = nI 1 from rfl, pk_sub (by omega), nI_toInt (by omega)]
  omega
def cF_Trail_takeLatest_nx (v_nx : Int32) : Int32 := if v_nx ≤ 0 then 99 else v_nx - 1
theorem tl_rng {x : Int32} (h : 0 ≤ x.toInt ∧ x.toInt ≤ 99) : 0 ≤ (cF_Trail_takeLatest_nx x).toInt ∧ (cF_Trail_takeLatest_nx x).toInt ≤ 99 := by
  rw [cF_Trail_takeLatest_nx]
  split
  · decide
  · rename_i h1
    exact ob_nxd h h1
def cF_Trail_open (v_nx : Int32) (v_ct : Int32) : Int32 × Int32 := (if 99 ≤ v_nx then (if 100 ≤ v_ct then (0, v_ct) else (0, (v_ct + 1))) else (if 100 ≤ v_ct then ((v_nx + 1), v_ct) else ((v_nx + 1), (v_ct + 1))))
set_option maxHeartbeats 4000000 in
set_option maxRecDepth 100000 in
theorem cc_Trail_open (l : Launch) (D : va_G) (tc : Nat → ClassId) (tb : Nat → Nat) (z0 : Nat) (sz : Nat) (a_t a_tr : Nat) (v_nx : Int32) (v_ct : Int32) (v_ka : Nat → Nat) (hn0 : 0 ≤ v_nx.toInt ∧ v_nx.toInt ≤ 99) : Met l y_Trai_open (wM y_Trai_open b_Trai_open 2 (some (.object "StepMachine$Kept"))) ({ frames := 0, cells := 0, slots := 0, locals := 0 }) (va_Pc [.ref a_t] (Pw D tc tb z0 [(a_t, .inr (6, [.ref a_tr, .int v_nx, .int v_ct])), (a_tr, .inl (tc 4, 100, .inr (.inr (.inr (.inr (fun j => some (v_ka j)))))))] sz)) (va_Qr (fun u : Int32 × Int32 => u = (cF_Trail_open v_nx v_ct)) (fun u a t => a = (v_ka v_nx.toNatClampNeg) ∧ Bw D tc (va_A [(a_t, .inr (6, [.ref a_tr, .int v_nx, .int v_ct])), (a_tr, .inl (tc 4, 100, .inr (.inr (.inr (.inr (fun j => some (v_ka j)))))))] sz) (fun u => [(a_t, .inr (6, [.ref a_tr, .int u.1, .int u.2])), (a_tr, .inl (tc 4, 100, .inr (.inr (.inr (.inr (fun j => some (v_ka j)))))))]) u t) (va_A [(a_t, .inr (6, [.ref a_tr, .int v_nx, .int v_ct])), (a_tr, .inl (tc 4, 100, .inr (.inr (.inr (.inr (fun j => some (v_ka j)))))))] sz)) 0 0 (va_A [(a_t, .inr (6, [.ref a_tr, .int v_nx, .int v_ct])), (a_tr, .inl (tc 4, 100, .inr (.inr (.inr (.inr (fun j => some (v_ka j)))))))] sz) := by
  refine Met.ofW (cc := b_Trai_open) (maxL := 2) (ret := (some (.object "StepMachine$Kept"))) (by decide) rfl ?_
  intro p e s m args below meth c s₁ B hml hv
  obtain ⟨rfl, hsz, hP, hK, hB, hD0, hZ0⟩ := hv
  have hx := B.exec
  have hb := B.bytes
  have hr := B.returns
  have hts : ∀ w ∈ wALL, w.before _ s = true := fun w h => atoms_spec (ws := (wM y_Trai_open b_Trai_open 2 (some (.object "StepMachine$Kept")))) B.pre w (List.mem_cons_of_mem _ h)
  have hown : s.vm.findClass "StepMachine$Trail" = some m.cls := findClass_of_methodNamed B.named
  have hlocks := B.notSynchronized
  subst hsz
  have hD := hD0.self (sz := s.heap.size)
  generalize hAe : va_A [(a_t, .inr (6, [.ref a_tr, .int v_nx, .int v_ct])), (a_tr, .inl (tc 4, 100, .inr (.inr (.inr (.inr (fun j => some (v_ka j)))))))] s.heap.size = A at hD ⊢
  have hZ : ∀ q : Nat, A q → z0 ≤ q := by rw [← hAe]; exact hZ0
  have hA : ∀ q : Nat, s.heap.size ≤ q → A q := fun q h => by rw [← hAe]; exact Or.inr h
  have hS : va_S A s.heap s.heap [] := va_S.rf
  have hl := lv_entry ([.ref a_t]) (n := 2) (Nat.le_of_ble_eq_true rfl)
  rw [lg_entry_eq]
  generalize (lg_sl ([.ref a_t]) ++ List.replicate (2 - (lg_sl ([.ref a_t])).length) Slot.unset).toArray = ls at hl ⊢
  have hl : lv_has ls 2 [(0, .ref a_t)] := hl
  refine lv_aload_n hx hb d_Trai_open_0 rfl (lv_at hl 0 rfl) ?_
  refine va_get (D := D) (ci := 6) (v := .ref a_tr) (C := "StepMachine$Trail") (T := TX6) (N := 3) hx hb hts inU_6 hown hK hP 0 rfl rfl 0 (by decide) (hts _ a_113) (fun _ h9 => h9) rfl d_Trai_open_1 ?_
  refine lv_aload_n hx hb d_Trai_open_4 rfl (lv_at hl 0 rfl) ?_
  refine va_get (D := D) (ci := 6) (v := .int v_nx) (C := "StepMachine$Trail") (T := TX6) (N := 3) hx hb hts inU_6 hown hK hP 0 rfl rfl 1 (by decide) (hts _ a_114) (fun _ h9 => h9) rfl d_Trai_open_5 ?_
  refine va_aldq hx hb hK hP 1 4 rfl rfl (ob_nx hn0) d_Trai_open_8 ?_
  refine W.eq (g2 := F0 m 9 ls [.ref (v_ka v_nx.toNatClampNeg)]) rfl ?_
  refine lv_astore_n (lv' := [(1, .ref (v_ka v_nx.toNatClampNeg)), (0, .ref a_t)]) hx hb d_Trai_open_9 rfl hl (by decide) rfl (fun ls hl => ?_)
  refine lv_aload_n hx hb d_Trai_open_10 rfl (lv_at hl 1 rfl) ?_
  refine lv_aload_n hx hb d_Trai_open_11 rfl (lv_at hl 1 rfl) ?_
  refine va_get (D := D) (ci := 6) (v := .int v_nx) (C := "StepMachine$Trail") (T := TX6) (N := 3) hx hb hts inU_6 hown hK hP 0 rfl rfl 1 (by decide) (hts _ a_114) (fun _ h9 => h9) rfl d_Trai_open_12 ?_
  refine lv_bipush (v := 99) hx hb d_Trai_open_15 (by decide) ?_
  refine lv_icmp_ge (tgt := 29) hx hb d_Trai_open_17 (by decide) (fun c_17 => ?_) (fun c_17 => ?_)
  · skip
    refine lv_iconst (v := 0) hx hb d_Trai_open_29 (by decide) ?_
    refine va_put (D := D) (ci := 6) (v := .int 0) (ty := .int) (C := "StepMachine$Trail") (T := TX6) (N := 3) hx hb hts inU_6 tyX6 tyX6_ok nmX6 hown hK hP hD hS 0 rfl rfl 1 (by decide) (hts _ a_114) (fun _ h9 => h9) rfl (by decide +kernel) rfl rfl (Nat.le_of_ble_eq_true rfl) d_Trai_open_30 (fun H locs hP hD hS => ?_)
    have hP : va_P D vwCl [(a_t, .inr (6, [.ref a_tr, .int 0, .int v_ct])), (a_tr, .inl (tc 4, 100, .inr (.inr (.inr (.inr (fun j => some (v_ka j)))))))] H := hP
    have hD : va_D A [(a_t, .inr (6, [.ref a_tr, .int 0, .int v_ct])), (a_tr, .inl (tc 4, 100, .inr (.inr (.inr (.inr (fun j => some (v_ka j)))))))] := hD
    refine lv_aload_n hx hb d_Trai_open_33 rfl (lv_at hl 1 rfl) ?_
    refine va_get (D := D) (ci := 6) (v := .int v_ct) (C := "StepMachine$Trail") (T := TX6) (N := 3) hx hb hts inU_6 hown hK hP 0 rfl rfl 2 (by decide) (hts _ a_115) (fun _ h9 => h9) rfl d_Trai_open_34 ?_
    refine lv_bipush (v := 100) hx hb d_Trai_open_37 (by decide) ?_
    refine lv_icmp_ge (tgt := 52) hx hb d_Trai_open_39 (by decide) (fun c_39 => ?_) (fun c_39 => ?_)
    · skip
      refine lv_aload_n hx hb d_Trai_open_52 rfl (lv_at hl 0 rfl) ?_
      exact W.aret (v := .ref (v_ka v_nx.toNatClampNeg)) hx hb hr (Or.inl ⟨_, rfl⟩) (Or.inr ⟨_, rfl⟩) (fun t ht hW => ⟨⟨(0, v_ct), (v_ka v_nx.toNatClampNeg), rfl, by rw [cF_Trail_open, if_pos c_17, if_pos c_39], rfl, by rw [ht]; exact hP, va_K.moved hW.alike hK, hD⟩, hS.F ht⟩) hS.2.2 d_Trai_open_53
    · skip
      refine lv_aload_n hx hb d_Trai_open_42 rfl (lv_at hl 1 rfl) ?_
      refine lv_dup hx hb d_Trai_open_43 rfl ?_
      refine va_get (D := D) (ci := 6) (v := .int v_ct) (C := "StepMachine$Trail") (T := TX6) (N := 3) hx hb hts inU_6 hown hK hP 0 rfl rfl 2 (by decide) (hts _ a_115) (fun _ h9 => h9) rfl d_Trai_open_44 ?_
      refine lv_iconst (v := 1) hx hb d_Trai_open_47 (by decide) ?_
      refine lv_iadd hx hb d_Trai_open_48 ?_
      refine va_put (D := D) (ci := 6) (v := .int (v_ct + 1)) (ty := .int) (C := "StepMachine$Trail") (T := TX6) (N := 3) hx hb hts inU_6 tyX6 tyX6_ok nmX6 hown hK hP hD hS 0 rfl rfl 2 (by decide) (hts _ a_115) (fun _ h9 => h9) rfl (by decide +kernel) rfl rfl (Nat.le_of_ble_eq_true rfl) d_Trai_open_49 (fun H locs hP hD hS => ?_)
      have hP : va_P D vwCl [(a_t, .inr (6, [.ref a_tr, .int 0, .int (v_ct + 1)])), (a_tr, .inl (tc 4, 100, .inr (.inr (.inr (.inr (fun j => some (v_ka j)))))))] H := hP
      have hD : va_D A [(a_t, .inr (6, [.ref a_tr, .int 0, .int (v_ct + 1)])), (a_tr, .inl (tc 4, 100, .inr (.inr (.inr (.inr (fun j => some (v_ka j)))))))] := hD
      refine lv_aload_n hx hb d_Trai_open_52 rfl (lv_at hl 0 rfl) ?_
      exact W.aret (v := .ref (v_ka v_nx.toNatClampNeg)) hx hb hr (Or.inl ⟨_, rfl⟩) (Or.inr ⟨_, rfl⟩) (fun t ht hW => ⟨⟨(0, (v_ct + 1)), (v_ka v_nx.toNatClampNeg), rfl, by rw [cF_Trail_open, if_pos c_17, if_neg c_39], rfl, by rw [ht]; exact hP, va_K.moved hW.alike hK, hD⟩, hS.F ht⟩) hS.2.2 d_Trai_open_53
  · skip
    refine lv_aload_n hx hb d_Trai_open_20 rfl (lv_at hl 1 rfl) ?_
    refine va_get (D := D) (ci := 6) (v := .int v_nx) (C := "StepMachine$Trail") (T := TX6) (N := 3) hx hb hts inU_6 hown hK hP 0 rfl rfl 1 (by decide) (hts _ a_114) (fun _ h9 => h9) rfl d_Trai_open_21 ?_
    refine lv_iconst (v := 1) hx hb d_Trai_open_24 (by decide) ?_
    refine lv_iadd hx hb d_Trai_open_25 ?_
    refine lv_goto (tgt := 30) hx hb d_Trai_open_26 (by decide) ?_
    refine va_put (D := D) (ci := 6) (v := .int (v_nx + 1)) (ty := .int) (C := "StepMachine$Trail") (T := TX6) (N := 3) hx hb hts inU_6 tyX6 tyX6_ok nmX6 hown hK hP hD hS 0 rfl rfl 1 (by decide) (hts _ a_114) (fun _ h9 => h9) rfl (by decide +kernel) rfl rfl (Nat.le_of_ble_eq_true rfl) d_Trai_open_30 (fun H locs hP hD hS => ?_)
    have hP : va_P D vwCl [(a_t, .inr (6, [.ref a_tr, .int (v_nx + 1), .int v_ct])), (a_tr, .inl (tc 4, 100, .inr (.inr (.inr (.inr (fun j => some (v_ka j)))))))] H := hP
    have hD : va_D A [(a_t, .inr (6, [.ref a_tr, .int (v_nx + 1), .int v_ct])), (a_tr, .inl (tc 4, 100, .inr (.inr (.inr (.inr (fun j => some (v_ka j)))))))] := hD
    refine lv_aload_n hx hb d_Trai_open_33 rfl (lv_at hl 1 rfl) ?_
    refine va_get (D := D) (ci := 6) (v := .int v_ct) (C := "StepMachine$Trail") (T := TX6) (N := 3) hx hb hts inU_6 hown hK hP 0 rfl rfl 2 (by decide) (hts _ a_115) (fun _ h9 => h9) rfl d_Trai_open_34 ?_
    refine lv_bipush (v := 100) hx hb d_Trai_open_37 (by decide) ?_
    refine lv_icmp_ge (tgt := 52) hx hb d_Trai_open_39 (by decide) (fun c_39 => ?_) (fun c_39 => ?_)
    · skip
      refine lv_aload_n hx hb d_Trai_open_52 rfl (lv_at hl 0 rfl) ?_
      exact W.aret (v := .ref (v_ka v_nx.toNatClampNeg)) hx hb hr (Or.inl ⟨_, rfl⟩) (Or.inr ⟨_, rfl⟩) (fun t ht hW => ⟨⟨((v_nx + 1), v_ct), (v_ka v_nx.toNatClampNeg), rfl, by rw [cF_Trail_open, if_neg c_17, if_pos c_39], rfl, by rw [ht]; exact hP, va_K.moved hW.alike hK, hD⟩, hS.F ht⟩) hS.2.2 d_Trai_open_53
    · skip
      refine lv_aload_n hx hb d_Trai_open_42 rfl (lv_at hl 1 rfl) ?_
      refine lv_dup hx hb d_Trai_open_43 rfl ?_
      refine va_get (D := D) (ci := 6) (v := .int v_ct) (C := "StepMachine$Trail") (T := TX6) (N := 3) hx hb hts inU_6 hown hK hP 0 rfl rfl 2 (by decide) (hts _ a_115) (fun _ h9 => h9) rfl d_Trai_open_44 ?_
      refine lv_iconst (v := 1) hx hb d_Trai_open_47 (by decide) ?_
      refine lv_iadd hx hb d_Trai_open_48 ?_
      refine va_put (D := D) (ci := 6) (v := .int (v_ct + 1)) (ty := .int) (C := "StepMachine$Trail") (T := TX6) (N := 3) hx hb hts inU_6 tyX6 tyX6_ok nmX6 hown hK hP hD hS 0 rfl rfl 2 (by decide) (hts _ a_115) (fun _ h9 => h9) rfl (by decide +kernel) rfl rfl (Nat.le_of_ble_eq_true rfl) d_Trai_open_49 (fun H locs hP hD hS => ?_)
      have hP : va_P D vwCl [(a_t, .inr (6, [.ref a_tr, .int (v_nx + 1), .int (v_ct + 1)])), (a_tr, .inl (tc 4, 100, .inr (.inr (.inr (.inr (fun j => some (v_ka j)))))))] H := hP
      have hD : va_D A [(a_t, .inr (6, [.ref a_tr, .int (v_nx + 1), .int (v_ct + 1)])), (a_tr, .inl (tc 4, 100, .inr (.inr (.inr (.inr (fun j => some (v_ka j)))))))] := hD
      refine lv_aload_n hx hb d_Trai_open_52 rfl (lv_at hl 0 rfl) ?_
      exact W.aret (v := .ref (v_ka v_nx.toNatClampNeg)) hx hb hr (Or.inl ⟨_, rfl⟩) (Or.inr ⟨_, rfl⟩) (fun t ht hW => ⟨⟨((v_nx + 1), (v_ct + 1)), (v_ka v_nx.toNatClampNeg), rfl, by rw [cF_Trail_open, if_neg c_17, if_neg c_39], rfl, by rw [ht]; exact hP, va_K.moved hW.alike hK, hD⟩, hS.F ht⟩) hS.2.2 d_Trai_open_53
def cF_Trail_takeLatest0  : Unit := ()
set_option maxHeartbeats 4000000 in
set_option maxRecDepth 100000 in
theorem cc_Trail_takeLatest0 (l : Launch) (D : va_G) (tc : Nat → ClassId) (tb : Nat → Nat) (z0 : Nat) (a_t a_tr : Nat) (v_nx : Int32) (v_ct : Int32) (v_ka : Nat → Nat) (hc0 : v_ct = 0) : Met l y_Trai_takeLatest (wM y_Trai_takeLatest b_Trai_takeLatest 1 (some (.object "StepMachine$Kept"))) ({ frames := 0, cells := 0, slots := 0, locals := 0 }) (va_Pc [.ref a_t] (Pr D tc tb z0 [(a_t, .inr (6, [.ref a_tr, .int v_nx, .int v_ct])), (a_tr, .inl (tc 4, 100, .inr (.inr (.inr (.inr (fun j => some (v_ka j)))))))])) (fun _ st o t => o = .returned (some .null) ∧ t.heap = st.heap) 0 0 (fun _ => False) := by
  refine Met.ofW (cc := b_Trai_takeLatest) (maxL := 1) (ret := (some (.object "StepMachine$Kept"))) (by decide) rfl ?_
  intro p e s m args below meth c s₁ B hml hv
  obtain ⟨rfl, hP, hK, hB⟩ := hv
  have hx := B.exec
  have hb := B.bytes
  have hr := B.returns
  have hts : ∀ w ∈ wALL, w.before _ s = true := fun w h => atoms_spec (ws := (wM y_Trai_takeLatest b_Trai_takeLatest 1 (some (.object "StepMachine$Kept")))) B.pre w (List.mem_cons_of_mem _ h)
  have hown : s.vm.findClass "StepMachine$Trail" = some m.cls := findClass_of_methodNamed B.named
  have hlocks := B.notSynchronized
  have hl := lv_entry ([.ref a_t]) (n := 1) (Nat.le_of_ble_eq_true rfl)
  rw [lg_entry_eq]
  generalize (lg_sl ([.ref a_t]) ++ List.replicate (1 - (lg_sl ([.ref a_t])).length) Slot.unset).toArray = ls at hl ⊢
  have hl : lv_has ls 1 [(0, .ref a_t)] := hl
  refine lv_aload_n hx hb d_Trai_takeLatest_0 rfl (lv_at hl 0 rfl) ?_
  refine va_get (D := D) (ci := 6) (v := .int v_ct) (C := "StepMachine$Trail") (T := TX6) (N := 3) hx hb hts inU_6 hown hK hP 0 rfl rfl 2 (by decide) (hts _ a_115) (fun _ h9 => h9) rfl d_Trai_takeLatest_1 ?_
  refine lv_if_ne (tgt := 9) hx hb d_Trai_takeLatest_4 (by decide) (fun c_4 => absurd hc0 c_4) (fun c_4 => ?_)
  refine lv_null hx hb d_Trai_takeLatest_7 ?_
  exact W.aret (v := .null) hx hb hr (Or.inl ⟨_, rfl⟩) (Or.inl rfl) (fun t ht hW => ⟨rfl, ht⟩) (fun q h => by cases h) d_Trai_takeLatest_8
def cF_Trail_takeLatest1 (v_nx : Int32) (v_ct : Int32) : Int32 × Int32 := (if v_nx ≤ 0 then (99, (v_ct - 1)) else ((v_nx - 1), (v_ct - 1)))
set_option maxHeartbeats 4000000 in
set_option maxRecDepth 100000 in
theorem cc_Trail_takeLatest1 (l : Launch) (D : va_G) (tc : Nat → ClassId) (tb : Nat → Nat) (z0 : Nat) (sz : Nat) (a_t a_tr : Nat) (v_nx : Int32) (v_ct : Int32) (v_ka : Nat → Nat) (hc0 : ¬ v_ct = 0) (hn0 : 0 ≤ v_nx.toInt ∧ v_nx.toInt ≤ 99) : Met l y_Trai_takeLatest (wM y_Trai_takeLatest b_Trai_takeLatest 1 (some (.object "StepMachine$Kept"))) ({ frames := 0, cells := 0, slots := 0, locals := 0 }) (va_Pc [.ref a_t] (Pw D tc tb z0 [(a_t, .inr (6, [.ref a_tr, .int v_nx, .int v_ct])), (a_tr, .inl (tc 4, 100, .inr (.inr (.inr (.inr (fun j => some (v_ka j)))))))] sz)) (va_Qr (fun u : Int32 × Int32 => u = (cF_Trail_takeLatest1 v_nx v_ct)) (fun u a t => a = (v_ka (cF_Trail_takeLatest_nx v_nx).toNatClampNeg) ∧ Bw D tc (va_A [(a_t, .inr (6, [.ref a_tr, .int v_nx, .int v_ct])), (a_tr, .inl (tc 4, 100, .inr (.inr (.inr (.inr (fun j => some (v_ka j)))))))] sz) (fun u => [(a_t, .inr (6, [.ref a_tr, .int u.1, .int u.2])), (a_tr, .inl (tc 4, 100, .inr (.inr (.inr (.inr (fun j => some (v_ka j)))))))]) u t) (va_A [(a_t, .inr (6, [.ref a_tr, .int v_nx, .int v_ct])), (a_tr, .inl (tc 4, 100, .inr (.inr (.inr (.inr (fun j => some (v_ka j)))))))] sz)) 0 0 (va_A [(a_t, .inr (6, [.ref a_tr, .int v_nx, .int v_ct])), (a_tr, .inl (tc 4, 100, .inr (.inr (.inr (.inr (fun j => some (v_ka j)))))))] sz) := by
  refine Met.ofW (cc := b_Trai_takeLatest) (maxL := 1) (ret := (some (.object "StepMachine$Kept"))) (by decide) rfl ?_
  intro p e s m args below meth c s₁ B hml hv
  obtain ⟨rfl, hsz, hP, hK, hB, hD0, hZ0⟩ := hv
  have hx := B.exec
  have hb := B.bytes
  have hr := B.returns
  have hts : ∀ w ∈ wALL, w.before _ s = true := fun w h => atoms_spec (ws := (wM y_Trai_takeLatest b_Trai_takeLatest 1 (some (.object "StepMachine$Kept")))) B.pre w (List.mem_cons_of_mem _ h)
  have hown : s.vm.findClass "StepMachine$Trail" = some m.cls := findClass_of_methodNamed B.named
  have hlocks := B.notSynchronized
  subst hsz
  have hD := hD0.self (sz := s.heap.size)
  generalize hAe : va_A [(a_t, .inr (6, [.ref a_tr, .int v_nx, .int v_ct])), (a_tr, .inl (tc 4, 100, .inr (.inr (.inr (.inr (fun j => some (v_ka j)))))))] s.heap.size = A at hD ⊢
  have hZ : ∀ q : Nat, A q → z0 ≤ q := by rw [← hAe]; exact hZ0
  have hA : ∀ q : Nat, s.heap.size ≤ q → A q := fun q h => by rw [← hAe]; exact Or.inr h
  have hS : va_S A s.heap s.heap [] := va_S.rf
  have hl := lv_entry ([.ref a_t]) (n := 1) (Nat.le_of_ble_eq_true rfl)
  rw [lg_entry_eq]
  generalize (lg_sl ([.ref a_t]) ++ List.replicate (1 - (lg_sl ([.ref a_t])).length) Slot.unset).toArray = ls at hl ⊢
  have hl : lv_has ls 1 [(0, .ref a_t)] := hl
  refine lv_aload_n hx hb d_Trai_takeLatest_0 rfl (lv_at hl 0 rfl) ?_
  refine va_get (D := D) (ci := 6) (v := .int v_ct) (C := "StepMachine$Trail") (T := TX6) (N := 3) hx hb hts inU_6 hown hK hP 0 rfl rfl 2 (by decide) (hts _ a_115) (fun _ h9 => h9) rfl d_Trai_takeLatest_1 ?_
  refine lv_if_ne (tgt := 9) hx hb d_Trai_takeLatest_4 (by decide) (fun c_4 => ?_) (fun c_4 => absurd c_4 hc0)
  refine lv_aload_n hx hb d_Trai_takeLatest_9 rfl (lv_at hl 0 rfl) ?_
  refine lv_dup hx hb d_Trai_takeLatest_10 rfl ?_
  refine va_get (D := D) (ci := 6) (v := .int v_ct) (C := "StepMachine$Trail") (T := TX6) (N := 3) hx hb hts inU_6 hown hK hP 0 rfl rfl 2 (by decide) (hts _ a_115) (fun _ h9 => h9) rfl d_Trai_takeLatest_11 ?_
  refine lv_iconst (v := 1) hx hb d_Trai_takeLatest_14 (by decide) ?_
  refine lv_isub hx hb d_Trai_takeLatest_15 ?_
  refine va_put (D := D) (ci := 6) (v := .int (v_ct - 1)) (ty := .int) (C := "StepMachine$Trail") (T := TX6) (N := 3) hx hb hts inU_6 tyX6 tyX6_ok nmX6 hown hK hP hD hS 0 rfl rfl 2 (by decide) (hts _ a_115) (fun _ h9 => h9) rfl (by decide +kernel) rfl rfl (Nat.le_of_ble_eq_true rfl) d_Trai_takeLatest_16 (fun H locs hP hD hS => ?_)
  have hP : va_P D vwCl [(a_t, .inr (6, [.ref a_tr, .int v_nx, .int (v_ct - 1)])), (a_tr, .inl (tc 4, 100, .inr (.inr (.inr (.inr (fun j => some (v_ka j)))))))] H := hP
  have hD : va_D A [(a_t, .inr (6, [.ref a_tr, .int v_nx, .int (v_ct - 1)])), (a_tr, .inl (tc 4, 100, .inr (.inr (.inr (.inr (fun j => some (v_ka j)))))))] := hD
  refine lv_aload_n hx hb d_Trai_takeLatest_19 rfl (lv_at hl 0 rfl) ?_
  refine lv_aload_n hx hb d_Trai_takeLatest_20 rfl (lv_at hl 0 rfl) ?_
  refine va_get (D := D) (ci := 6) (v := .int v_nx) (C := "StepMachine$Trail") (T := TX6) (N := 3) hx hb hts inU_6 hown hK hP 0 rfl rfl 1 (by decide) (hts _ a_114) (fun _ h9 => h9) rfl d_Trai_takeLatest_21 ?_
  refine lv_if_le (tgt := 36) hx hb d_Trai_takeLatest_24 (by decide) (fun c_24 => ?_) (fun c_24 => ?_)
  · skip
    refine lv_bipush (v := 99) hx hb d_Trai_takeLatest_36 (by decide) ?_
    refine va_put (D := D) (ci := 6) (v := .int 99) (ty := .int) (C := "StepMachine$Trail") (T := TX6) (N := 3) hx hb hts inU_6 tyX6 tyX6_ok nmX6 hown hK hP hD hS 0 rfl rfl 1 (by decide) (hts _ a_114) (fun _ h9 => h9) rfl (by decide +kernel) rfl rfl (Nat.le_of_ble_eq_true rfl) d_Trai_takeLatest_38 (fun H locs hP hD hS => ?_)
    have hP : va_P D vwCl [(a_t, .inr (6, [.ref a_tr, .int 99, .int (v_ct - 1)])), (a_tr, .inl (tc 4, 100, .inr (.inr (.inr (.inr (fun j => some (v_ka j)))))))] H := hP
    have hD : va_D A [(a_t, .inr (6, [.ref a_tr, .int 99, .int (v_ct - 1)])), (a_tr, .inl (tc 4, 100, .inr (.inr (.inr (.inr (fun j => some (v_ka j)))))))] := hD
    refine lv_aload_n hx hb d_Trai_takeLatest_41 rfl (lv_at hl 0 rfl) ?_
    refine va_get (D := D) (ci := 6) (v := .ref a_tr) (C := "StepMachine$Trail") (T := TX6) (N := 3) hx hb hts inU_6 hown hK hP 0 rfl rfl 0 (by decide) (hts _ a_113) (fun _ h9 => h9) rfl d_Trai_takeLatest_42 ?_
    refine lv_aload_n hx hb d_Trai_takeLatest_45 rfl (lv_at hl 0 rfl) ?_
    refine va_get (D := D) (ci := 6) (v := .int 99) (C := "StepMachine$Trail") (T := TX6) (N := 3) hx hb hts inU_6 hown hK hP 0 rfl rfl 1 (by decide) (hts _ a_114) (fun _ h9 => h9) rfl d_Trai_takeLatest_46 ?_
    refine va_aldq hx hb hK hP 1 4 rfl rfl (by first | exact ob_nx (ob_nxd hn0 c_24) | exact ob_nx (by decide)) d_Trai_takeLatest_49 ?_
    refine W.eq (g2 := F0 m 50 ls [.ref (v_ka (99 : Int32).toNatClampNeg)]) rfl ?_
    exact W.aret (v := .ref (v_ka (99 : Int32).toNatClampNeg)) hx hb hr (Or.inl ⟨_, rfl⟩) (Or.inr ⟨_, rfl⟩) (fun t ht hW => ⟨⟨(99, (v_ct - 1)), (v_ka (99 : Int32).toNatClampNeg), rfl, by rw [cF_Trail_takeLatest1, if_pos c_24], (by rw [cF_Trail_takeLatest_nx]; first | rw [if_pos c_24] | rw [if_neg c_24]), by rw [ht]; exact hP, va_K.moved hW.alike hK, hD⟩, hS.F ht⟩) hS.2.2 d_Trai_takeLatest_50
  · skip
    refine lv_aload_n hx hb d_Trai_takeLatest_27 rfl (lv_at hl 0 rfl) ?_
    refine va_get (D := D) (ci := 6) (v := .int v_nx) (C := "StepMachine$Trail") (T := TX6) (N := 3) hx hb hts inU_6 hown hK hP 0 rfl rfl 1 (by decide) (hts _ a_114) (fun _ h9 => h9) rfl d_Trai_takeLatest_28 ?_
    refine lv_iconst (v := 1) hx hb d_Trai_takeLatest_31 (by decide) ?_
    refine lv_isub hx hb d_Trai_takeLatest_32 ?_
    refine lv_goto (tgt := 38) hx hb d_Trai_takeLatest_33 (by decide) ?_
    refine va_put (D := D) (ci := 6) (v := .int (v_nx - 1)) (ty := .int) (C := "StepMachine$Trail") (T := TX6) (N := 3) hx hb hts inU_6 tyX6 tyX6_ok nmX6 hown hK hP hD hS 0 rfl rfl 1 (by decide) (hts _ a_114) (fun _ h9 => h9) rfl (by decide +kernel) rfl rfl (Nat.le_of_ble_eq_true rfl) d_Trai_takeLatest_38 (fun H locs hP hD hS => ?_)
    have hP : va_P D vwCl [(a_t, .inr (6, [.ref a_tr, .int (v_nx - 1), .int (v_ct - 1)])), (a_tr, .inl (tc 4, 100, .inr (.inr (.inr (.inr (fun j => some (v_ka j)))))))] H := hP
    have hD : va_D A [(a_t, .inr (6, [.ref a_tr, .int (v_nx - 1), .int (v_ct - 1)])), (a_tr, .inl (tc 4, 100, .inr (.inr (.inr (.inr (fun j => some (v_ka j)))))))] := hD
    refine lv_aload_n hx hb d_Trai_takeLatest_41 rfl (lv_at hl 0 rfl) ?_
    refine va_get (D := D) (ci := 6) (v := .ref a_tr) (C := "StepMachine$Trail") (T := TX6) (N := 3) hx hb hts inU_6 hown hK hP 0 rfl rfl 0 (by decide) (hts _ a_113) (fun _ h9 => h9) rfl d_Trai_takeLatest_42 ?_
    refine lv_aload_n hx hb d_Trai_takeLatest_45 rfl (lv_at hl 0 rfl) ?_
    refine va_get (D := D) (ci := 6) (v := .int (v_nx - 1)) (C := "StepMachine$Trail") (T := TX6) (N := 3) hx hb hts inU_6 hown hK hP 0 rfl rfl 1 (by decide) (hts _ a_114) (fun _ h9 => h9) rfl d_Trai_takeLatest_46 ?_
    refine va_aldq hx hb hK hP 1 4 rfl rfl (by first | exact ob_nx (ob_nxd hn0 c_24) | exact ob_nx (by decide)) d_Trai_takeLatest_49 ?_
    refine W.eq (g2 := F0 m 50 ls [.ref (v_ka (v_nx - 1).toNatClampNeg)]) rfl ?_
    exact W.aret (v := .ref (v_ka (v_nx - 1).toNatClampNeg)) hx hb hr (Or.inl ⟨_, rfl⟩) (Or.inr ⟨_, rfl⟩) (fun t ht hW => ⟨⟨((v_nx - 1), (v_ct - 1)), (v_ka (v_nx - 1).toNatClampNeg), rfl, by rw [cF_Trail_takeLatest1, if_neg c_24], (by rw [cF_Trail_takeLatest_nx]; first | rw [if_pos c_24] | rw [if_neg c_24]), by rw [ht]; exact hP, va_K.moved hW.alike hK, hD⟩, hS.F ht⟩) hS.2.2 d_Trai_takeLatest_50
theorem tl_rng1 {x y : Int32} (h : 0 ≤ x.toInt ∧ x.toInt ≤ 99) : 0 ≤ (cF_Trail_takeLatest1 x y).1.toInt ∧ (cF_Trail_takeLatest1 x y).1.toInt ≤ 99 := by
  rw [cF_Trail_takeLatest1]
  split
  · exact (by decide : 0 ≤ (99 : Int32).toInt ∧ (99 : Int32).toInt ≤ 99)
  · rename_i h1
    exact ob_nxd h h1
