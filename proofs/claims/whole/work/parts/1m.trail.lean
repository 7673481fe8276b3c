theorem ob_nx {x : Int32} (h : 0 ≤ x.toInt ∧ x.toInt ≤ 99) : vp_in x 100 := by
  rw [vp_in_iff]
  omega
theorem ob_nxj {x : Int32} (h : 0 ≤ x.toInt ∧ x.toInt ≤ 99) : x.toNatClampNeg < 100 := by
  have h0 : x.toNatClampNeg = x.toInt.toNat := rfl
  omega
theorem ob_nxd {x : Int32} (h : 0 ≤ x.toInt ∧ x.toInt ≤ 99) (h1 : ¬ x ≤ 0) : 0 ≤ (x - 1).toInt ∧ (x - 1).toInt ≤ 99 := by
  have a := ob_nle h1
  have e0 : (0 : Int32).toInt = 0 := by decide
  have h0 : x.toNatClampNeg = x.toInt.toNat := rfl
  have e : x = nI x.toNatClampNeg := by
    apply Int32.toInt_inj.mp
    rw [nI_toInt (by omega)]
    omega
  rw [e, show (1 : Int32) = nI 1 from rfl, pk_sub (by omega), nI_toInt (by omega)]
  omega
-- the walk of a method of the JDK: its class may have rows of its own among the natives, but this method has none (plainFor)
theorem jdk_ofW {l : Launch} {y : MethodName} {ws ws' : List Cond} {rm : Room} {Pc : Array Value → State → Prop} {Qc : Array Value → State → Outcome → State → Prop} {mc ms : Nat} {free : Addr → Prop} {cc : ByteArray} {maxL : Nat} {ret : Option FieldType}
    (hy : plainFor y = true) (hw : ws = Cond.code y cc maxL ret :: ws')
    (body : ∀ p e s m args below meth c s₁, BodyLoose p l y (headSpec ws rm) cc maxL ret e s m args below meth c s₁ → c.maxLocals = maxL → Pc args s →
      W p l e (headSpec ws rm).room s m args below meth c s.heap [] 0 0 (MQ below Qc args s mc ms free) (entryFrame m args maxL)) : Met l y ws rm Pc Qc mc ms free := by
  refine MetFree.of_bodySF (code := cc) (maxLocals := maxL) (ret := ret) hy ?_ ?_
  · intro args s m h hn
    obtain ⟨meth, c, h1, h2, h3, h4, h5, h6, -, -⟩ := Cond.code_spec hn (atoms_spec (ws := ws) h _ (by rw [hw]; exact List.mem_cons_self))
    exact ⟨meth, c, h1, h2, h3, h4, h5, h6⟩
  · intro p e s m args below meth c s₁ B hml hP _
    obtain ⟨t, a1, o, b1, b2, b3⟩ := body p e s m args below meth c s₁ B hml hP s₁ (by rw [B.state]; rfl) (Stand.of_body B)
    exact ⟨t, o, a1, b1, b2, ⟨b3.1, b3.2⟩⟩
def cF_Math_floorMod (x0 : Int32) (x1 : Int32) : Int32 := (if 0 ≤ (x0 ^^^ x1) then (x0 - x0 / x1 * x1) else (if (x0 - x0 / x1 * x1) = 0 then (x0 - x0 / x1 * x1) else ((x0 - x0 / x1 * x1) + x1)))
set_option maxHeartbeats 4000000 in
set_option maxRecDepth 100000 in
theorem cc_Math_floorMod (l : Launch) (D : va_G) (tc : Nat → ClassId) (tb : Nat → Nat) (z0 : Nat) (x0 : Int32) (x1 : Int32) (hy0 : ¬ x1 = 0) : Met l y_Math_floorMod (wM y_Math_floorMod b_Math_floorMod 3 (some .int)) ({ frames := 0, cells := 0, slots := 0, locals := 0 }) (va_Pc [.int x0, .int x1] (Pr D tc tb z0 [])) (vp_Si (fun r => r = (cF_Math_floorMod x0 x1))) 0 0 (fun _ => False) := by
  refine jdk_ofW (cc := b_Math_floorMod) (maxL := 3) (ret := (some .int)) (by decide +kernel) rfl ?_
  intro p e s m args below meth c s₁ B hml hv
  obtain ⟨rfl, hP, hK, hB⟩ := hv
  have hx := B.exec
  have hb := B.bytes
  have hr := B.returns
  have hts : ∀ w ∈ wALL, w.before _ s = true := fun w h => atoms_spec (ws := (wM y_Math_floorMod b_Math_floorMod 3 (some .int))) B.pre w (List.mem_cons_of_mem _ h)
  have hown : s.vm.findClass "java/lang/Math" = some m.cls := findClass_of_methodNamed B.named
  have hlocks := B.notSynchronized
  have hl := lv_entry ([.int x0, .int x1]) (n := 3) (Nat.le_of_ble_eq_true rfl)
  rw [lg_entry_eq]
  generalize (lg_sl ([.int x0, .int x1]) ++ List.replicate (3 - (lg_sl ([.int x0, .int x1])).length) Slot.unset).toArray = ls at hl ⊢
  have hl : lv_has ls 3 [(0, .int x0), (1, .int x1)] := hl
  refine lv_iload_n hx hb d_Math_floorMod_0 rfl (lv_at hl 0 rfl) ?_
  refine lv_iload_n hx hb d_Math_floorMod_1 rfl (lv_at hl 1 rfl) ?_
  refine lv_irem hx hb d_Math_floorMod_2 hy0 ?_
  refine lv_istore_n (lv' := [(2, .int (x0 - x0 / x1 * x1)), (0, .int x0), (1, .int x1)]) hx hb d_Math_floorMod_3 rfl hl (by decide) rfl (fun ls hl => ?_)
  refine lv_iload_n hx hb d_Math_floorMod_4 rfl (lv_at hl 1 rfl) ?_
  refine lv_iload_n hx hb d_Math_floorMod_5 rfl (lv_at hl 2 rfl) ?_
  refine lv_ixor hx hb d_Math_floorMod_6 ?_
  refine lv_if_ge (tgt := 18) hx hb d_Math_floorMod_7 (by decide) (fun c_7 => ?_) (fun c_7 => ?_)
  · skip
    refine lv_iload_n hx hb d_Math_floorMod_18 rfl (lv_at hl 0 rfl) ?_
    exact W.iret (v := (x0 - x0 / x1 * x1)) hx hb hr (fun t ht hW => ⟨_, rfl, by rw [cF_Math_floorMod, if_pos c_7], ht⟩) (fun q h => by cases h) d_Math_floorMod_19
  · skip
    refine lv_iload_n hx hb d_Math_floorMod_10 rfl (lv_at hl 0 rfl) ?_
    refine lv_if_eq (tgt := 18) hx hb d_Math_floorMod_11 (by decide) (fun c_11 => ?_) (fun c_11 => ?_)
    · skip
      refine lv_iload_n hx hb d_Math_floorMod_18 rfl (lv_at hl 0 rfl) ?_
      exact W.iret (v := (x0 - x0 / x1 * x1)) hx hb hr (fun t ht hW => ⟨_, rfl, by rw [cF_Math_floorMod, if_neg c_7, if_pos c_11], ht⟩) (fun q h => by cases h) d_Math_floorMod_19
    · skip
      refine lv_iload_n hx hb d_Math_floorMod_14 rfl (lv_at hl 0 rfl) ?_
      refine lv_iload_n hx hb d_Math_floorMod_15 rfl (lv_at hl 2 rfl) ?_
      refine lv_iadd hx hb d_Math_floorMod_16 ?_
      exact W.iret (v := ((x0 - x0 / x1 * x1) + x1)) hx hb hr (fun t ht hW => ⟨_, rfl, by rw [cF_Math_floorMod, if_neg c_7, if_neg c_11], ht⟩) (fun q h => by cases h) d_Math_floorMod_17
def cF_Trail_place (x0 : Int32) : Int32 := (cF_Math_floorMod x0 100)
set_option maxHeartbeats 4000000 in
set_option maxRecDepth 100000 in
theorem cc_Trail_place (l : Launch) (D : va_G) (tc : Nat → ClassId) (tb : Nat → Nat) (z0 : Nat) (x0 : Int32) : Met l y_Trai_place (wM y_Trai_place b_Trai_place 1 (some .int)) ({ frames := 1, cells := 0, slots := 0, locals := 22 }) (va_Pc [.int x0] (Pr D tc tb z0 [])) (vp_Si (fun r => r = (cF_Trail_place x0))) 0 0 (fun _ => False) := by
  refine Met.ofW (cc := b_Trai_place) (maxL := 1) (ret := (some .int)) (by decide) rfl ?_
  intro p e s m args below meth c s₁ B hml hv
  obtain ⟨rfl, hP, hK, hB⟩ := hv
  have hx := B.exec
  have hb := B.bytes
  have hr := B.returns
  have hts : ∀ w ∈ wALL, w.before _ s = true := fun w h => atoms_spec (ws := (wM y_Trai_place b_Trai_place 1 (some .int))) B.pre w (List.mem_cons_of_mem _ h)
  have hown : s.vm.findClass "StepMachine$Trail" = some m.cls := findClass_of_methodNamed B.named
  have hlocks := B.notSynchronized
  have hl := lv_entry ([.int x0]) (n := 1) (Nat.le_of_ble_eq_true rfl)
  rw [lg_entry_eq]
  generalize (lg_sl ([.int x0]) ++ List.replicate (1 - (lg_sl ([.int x0])).length) Slot.unset).toArray = ls at hl ⊢
  have hl : lv_has ls 1 [(0, .int x0)] := hl
  refine lv_iload_n hx hb d_Trai_place_0 rfl (lv_at hl 0 rfl) ?_
  refine lv_bipush (v := 100) hx hb d_Trai_place_1 (by decide) ?_
  refine roSi (As := [.int x0, .int 100]) (rest := []) ⟨hx, hb, hml, hown, hts⟩ (cc_Math_floorMod l D tc tb z0 x0 100 (by decide)) (va_cwS 2 hts (goodS a_485 a_486 a_13 a_487) rfl rfl rfl hs_Math_floorMod ⟨Nat.le_of_ble_eq_true rfl, Nat.le_of_ble_eq_true rfl⟩) (hP.sub [] rfl) hK hB rfl hl.1 rfl (Nat.le_of_ble_eq_true rfl) d_Trai_place_3 ⟨Nat.zero_le _, Nat.zero_le _⟩ ?_
  exact W.iret (v := (cF_Math_floorMod x0 100)) hx hb hr (fun t ht hW => ⟨_, rfl, by rw [cF_Trail_place], ht⟩) (fun q h => by cases h) d_Trai_place_6
theorem pl_all : ∀ n : Nat, n < 100 → cF_Trail_place (nI n) = nI n ∧ cF_Trail_place (nI n + 1) = nI ((n + 1) % 100) ∧ cF_Trail_place (nI n - 1) = nI ((n + 99) % 100) := by decide +kernel
theorem pl_nI {x : Int32} (h : 0 ≤ x.toInt ∧ x.toInt ≤ 99) : x = nI x.toNatClampNeg := by
  have h0 : x.toNatClampNeg = x.toInt.toNat := rfl
  apply Int32.toInt_inj.mp
  rw [nI_toInt (by omega)]
  omega
theorem pl_id {x : Int32} (h : 0 ≤ x.toInt ∧ x.toInt ≤ 99) : cF_Trail_place x = x := by
  have a := (pl_all x.toNatClampNeg (ob_nxj h)).1
  rw [← pl_nI h] at a
  exact a
theorem pl_up {x : Int32} (h : 0 ≤ x.toInt ∧ x.toInt ≤ 99) : 0 ≤ (cF_Trail_place (x + 1)).toInt ∧ (cF_Trail_place (x + 1)).toInt ≤ 99 := by
  have a := (pl_all x.toNatClampNeg (ob_nxj h)).2.1
  rw [← pl_nI h] at a
  rw [a, nI_toInt (by omega)]
  omega
def cF_Trail_takeLatest_nx (v_nx : Int32) : Int32 := cF_Trail_place (v_nx - 1)
theorem tl_rng {x : Int32} (h : 0 ≤ x.toInt ∧ x.toInt ≤ 99) : 0 ≤ (cF_Trail_takeLatest_nx x).toInt ∧ (cF_Trail_takeLatest_nx x).toInt ≤ 99 := by
  have a := (pl_all x.toNatClampNeg (ob_nxj h)).2.2
  rw [← pl_nI h] at a
  rw [cF_Trail_takeLatest_nx, a, nI_toInt (by omega)]
  omega
def cF_Trail_open (v_nx : Int32) (v_ct : Int32) : Int32 × Int32 := (if 100 ≤ v_ct then ((cF_Trail_place (v_nx + 1)), v_ct) else ((cF_Trail_place (v_nx + 1)), (v_ct + 1)))
set_option maxHeartbeats 4000000 in
set_option maxRecDepth 100000 in
theorem cc_Trail_open (l : Launch) (D : va_G) (tc : Nat → ClassId) (tb : Nat → Nat) (z0 : Nat) (sz : Nat) (a_t a_tr : Nat) (v_nx : Int32) (v_ct : Int32) (v_ka : Nat → Nat) (hn0 : 0 ≤ v_nx.toInt ∧ v_nx.toInt ≤ 99) : Met l y_Trai_open (wM y_Trai_open b_Trai_open 2 (some (.object "StepMachine$Kept"))) ({ frames := 2, cells := 0, slots := 0, locals := 42 }) (va_Pc [.ref a_t] (Pw D tc tb z0 [(a_t, .inr (6, [.ref a_tr, .int v_nx, .int v_ct])), (a_tr, .inl (tc 4, 100, .inr (.inr (.inr (.inr (fun j => some (v_ka j)))))))] sz)) (va_Qr (fun u : Int32 × Int32 => u = (cF_Trail_open v_nx v_ct)) (fun u a t => a = (v_ka v_nx.toNatClampNeg) ∧ Bw D tc (va_A [(a_t, .inr (6, [.ref a_tr, .int v_nx, .int v_ct])), (a_tr, .inl (tc 4, 100, .inr (.inr (.inr (.inr (fun j => some (v_ka j)))))))] sz) (fun u => [(a_t, .inr (6, [.ref a_tr, .int u.1, .int u.2])), (a_tr, .inl (tc 4, 100, .inr (.inr (.inr (.inr (fun j => some (v_ka j)))))))]) u t) (va_A [(a_t, .inr (6, [.ref a_tr, .int v_nx, .int v_ct])), (a_tr, .inl (tc 4, 100, .inr (.inr (.inr (.inr (fun j => some (v_ka j)))))))] sz)) 0 0 (va_A [(a_t, .inr (6, [.ref a_tr, .int v_nx, .int v_ct])), (a_tr, .inl (tc 4, 100, .inr (.inr (.inr (.inr (fun j => some (v_ka j)))))))] sz) := by
  refine Met.ofW (cc := b_Trai_open) (maxL := 2) (ret := (some (.object "StepMachine$Kept"))) (by decide) rfl ?_
  intro p e s m args below meth c s₁ B hml hv
  obtain ⟨rfl, hsz, hP, hK, hB, hD0, hZ0⟩ := hv
  have hx := B.exec
  have hb := B.bytes
  have hr := B.returns
  have hts : ∀ w ∈ wALL, w.before _ s = true := fun w h => atoms_spec (ws := (wM y_Trai_open b_Trai_open 2 (some (.object "StepMachine$Kept")))) B.pre w (List.mem_cons_of_mem _ h)
  have hown : s.vm.findClass "StepMachine$Trail" = some m.cls := findClass_of_methodNamed B.named
  have hlocks := B.notSynchronized
  subst hsz
  have hD := hD0.self (sz := s.heap.size)
  generalize hAe : va_A [(a_t, .inr (6, [.ref a_tr, .int v_nx, .int v_ct])), (a_tr, .inl (tc 4, 100, .inr (.inr (.inr (.inr (fun j => some (v_ka j)))))))] s.heap.size = A at hD ⊢
  have hZ : ∀ q : Nat, A q → z0 ≤ q := by rw [← hAe]; exact hZ0
  have hA : ∀ q : Nat, s.heap.size ≤ q → A q := fun q h => by rw [← hAe]; exact Or.inr h
  have hS : va_S A s.heap s.heap [] := va_S.rf
  have hl := lv_entry ([.ref a_t]) (n := 2) (Nat.le_of_ble_eq_true rfl)
  rw [lg_entry_eq]
  generalize (lg_sl ([.ref a_t]) ++ List.replicate (2 - (lg_sl ([.ref a_t])).length) Slot.unset).toArray = ls at hl ⊢
  have hl : lv_has ls 2 [(0, .ref a_t)] := hl
  refine lv_aload_n hx hb d_Trai_open_0 rfl (lv_at hl 0 rfl) ?_
  refine va_get (D := D) (ci := 6) (v := .ref a_tr) (C := "StepMachine$Trail") (T := TX6) (N := 3) hx hb hts inU_6 hown hK hP 0 rfl rfl 0 (by decide) (hts _ a_114) (fun _ h9 => h9) rfl d_Trai_open_1 ?_
  refine lv_aload_n hx hb d_Trai_open_4 rfl (lv_at hl 0 rfl) ?_
  refine va_get (D := D) (ci := 6) (v := .int v_nx) (C := "StepMachine$Trail") (T := TX6) (N := 3) hx hb hts inU_6 hown hK hP 0 rfl rfl 1 (by decide) (hts _ a_115) (fun _ h9 => h9) rfl d_Trai_open_5 ?_
  refine roSi (As := [.int v_nx]) (rest := [.ref a_tr]) ⟨hx, hb, hml, hown, hts⟩ (cc_Trail_place l D tc tb z0 v_nx) (va_cwS 1 hts (goodS a_482 a_483 a_6 a_484) rfl rfl rfl hs_Trai_place ⟨Nat.le_of_ble_eq_true rfl, Nat.le_of_ble_eq_true rfl⟩) (hP.sub [] rfl) hK (hB.kept hS hZ) rfl hl.1 rfl (Nat.le_of_ble_eq_true rfl) d_Trai_open_8 ⟨Nat.zero_le _, Nat.zero_le _⟩ ?_
  refine va_aldq hx hb hK hP 1 4 rfl rfl (by rw [pl_id hn0]; exact ob_nx hn0) d_Trai_open_11 ?_
  refine W.eq (g2 := F0 m 12 ls [.ref (v_ka (cF_Trail_place v_nx).toNatClampNeg)]) rfl ?_
  refine lv_astore_n (lv' := [(1, .ref (v_ka (cF_Trail_place v_nx).toNatClampNeg)), (0, .ref a_t)]) hx hb d_Trai_open_12 rfl hl (by decide) rfl (fun ls hl => ?_)
  refine lv_aload_n hx hb d_Trai_open_13 rfl (lv_at hl 1 rfl) ?_
  refine lv_aload_n hx hb d_Trai_open_14 rfl (lv_at hl 1 rfl) ?_
  refine va_get (D := D) (ci := 6) (v := .int v_nx) (C := "StepMachine$Trail") (T := TX6) (N := 3) hx hb hts inU_6 hown hK hP 0 rfl rfl 1 (by decide) (hts _ a_115) (fun _ h9 => h9) rfl d_Trai_open_15 ?_
  refine lv_iconst (v := 1) hx hb d_Trai_open_18 (by decide) ?_
  refine lv_iadd hx hb d_Trai_open_19 ?_
  refine roSi (As := [.int (v_nx + 1)]) (rest := [.ref a_t]) ⟨hx, hb, hml, hown, hts⟩ (cc_Trail_place l D tc tb z0 (v_nx + 1)) (va_cwS 1 hts (goodS a_482 a_483 a_6 a_484) rfl rfl rfl hs_Trai_place ⟨Nat.le_of_ble_eq_true rfl, Nat.le_of_ble_eq_true rfl⟩) (hP.sub [] rfl) hK (hB.kept hS hZ) rfl hl.1 rfl (Nat.le_of_ble_eq_true rfl) d_Trai_open_20 ⟨Nat.zero_le _, Nat.zero_le _⟩ ?_
  refine va_put (D := D) (ci := 6) (v := .int (cF_Trail_place (v_nx + 1))) (ty := .int) (C := "StepMachine$Trail") (T := TX6) (N := 3) hx hb hts inU_6 tyX6 tyX6_ok nmX6 hown hK hP hD hS 0 rfl rfl 1 (by decide) (hts _ a_115) (fun _ h9 => h9) rfl (by decide +kernel) rfl rfl (Nat.le_of_ble_eq_true rfl) d_Trai_open_23 (fun H locs hP hD hS => ?_)
  have hP : va_P D vwCl [(a_t, .inr (6, [.ref a_tr, .int (cF_Trail_place (v_nx + 1)), .int v_ct])), (a_tr, .inl (tc 4, 100, .inr (.inr (.inr (.inr (fun j => some (v_ka j)))))))] H := hP
  have hD : va_D A [(a_t, .inr (6, [.ref a_tr, .int (cF_Trail_place (v_nx + 1)), .int v_ct])), (a_tr, .inl (tc 4, 100, .inr (.inr (.inr (.inr (fun j => some (v_ka j)))))))] := hD
  refine lv_aload_n hx hb d_Trai_open_26 rfl (lv_at hl 1 rfl) ?_
  refine va_get (D := D) (ci := 6) (v := .int v_ct) (C := "StepMachine$Trail") (T := TX6) (N := 3) hx hb hts inU_6 hown hK hP 0 rfl rfl 2 (by decide) (hts _ a_116) (fun _ h9 => h9) rfl d_Trai_open_27 ?_
  refine lv_bipush (v := 100) hx hb d_Trai_open_30 (by decide) ?_
  refine lv_icmp_ge (tgt := 45) hx hb d_Trai_open_32 (by decide) (fun c_32 => ?_) (fun c_32 => ?_)
  · skip
    refine lv_aload_n hx hb d_Trai_open_45 rfl (lv_at hl 0 rfl) ?_
    exact W.aret (v := .ref (v_ka (cF_Trail_place v_nx).toNatClampNeg)) hx hb hr (Or.inl ⟨_, rfl⟩) (Or.inr ⟨_, rfl⟩) (fun t ht hW => ⟨⟨((cF_Trail_place (v_nx + 1)), v_ct), (v_ka (cF_Trail_place v_nx).toNatClampNeg), rfl, by rw [cF_Trail_open, if_pos c_32], (by rw [pl_id hn0]), by rw [ht]; exact hP, va_K.moved hW.alike hK, hD⟩, hS.F ht⟩) hS.2.2 d_Trai_open_46
  · skip
    refine lv_aload_n hx hb d_Trai_open_35 rfl (lv_at hl 1 rfl) ?_
    refine lv_dup hx hb d_Trai_open_36 rfl ?_
    refine va_get (D := D) (ci := 6) (v := .int v_ct) (C := "StepMachine$Trail") (T := TX6) (N := 3) hx hb hts inU_6 hown hK hP 0 rfl rfl 2 (by decide) (hts _ a_116) (fun _ h9 => h9) rfl d_Trai_open_37 ?_
    refine lv_iconst (v := 1) hx hb d_Trai_open_40 (by decide) ?_
    refine lv_iadd hx hb d_Trai_open_41 ?_
    refine va_put (D := D) (ci := 6) (v := .int (v_ct + 1)) (ty := .int) (C := "StepMachine$Trail") (T := TX6) (N := 3) hx hb hts inU_6 tyX6 tyX6_ok nmX6 hown hK hP hD hS 0 rfl rfl 2 (by decide) (hts _ a_116) (fun _ h9 => h9) rfl (by decide +kernel) rfl rfl (Nat.le_of_ble_eq_true rfl) d_Trai_open_42 (fun H locs hP hD hS => ?_)
    have hP : va_P D vwCl [(a_t, .inr (6, [.ref a_tr, .int (cF_Trail_place (v_nx + 1)), .int (v_ct + 1)])), (a_tr, .inl (tc 4, 100, .inr (.inr (.inr (.inr (fun j => some (v_ka j)))))))] H := hP
    have hD : va_D A [(a_t, .inr (6, [.ref a_tr, .int (cF_Trail_place (v_nx + 1)), .int (v_ct + 1)])), (a_tr, .inl (tc 4, 100, .inr (.inr (.inr (.inr (fun j => some (v_ka j)))))))] := hD
    refine lv_aload_n hx hb d_Trai_open_45 rfl (lv_at hl 0 rfl) ?_
    exact W.aret (v := .ref (v_ka (cF_Trail_place v_nx).toNatClampNeg)) hx hb hr (Or.inl ⟨_, rfl⟩) (Or.inr ⟨_, rfl⟩) (fun t ht hW => ⟨⟨((cF_Trail_place (v_nx + 1)), (v_ct + 1)), (v_ka (cF_Trail_place v_nx).toNatClampNeg), rfl, by rw [cF_Trail_open, if_neg c_32], (by rw [pl_id hn0]), by rw [ht]; exact hP, va_K.moved hW.alike hK, hD⟩, hS.F ht⟩) hS.2.2 d_Trai_open_46
def cF_Trail_takeLatest0  : Unit := ()
set_option maxHeartbeats 4000000 in
set_option maxRecDepth 100000 in
theorem cc_Trail_takeLatest0 (l : Launch) (D : va_G) (tc : Nat → ClassId) (tb : Nat → Nat) (z0 : Nat) (a_t a_tr : Nat) (v_nx : Int32) (v_ct : Int32) (v_ka : Nat → Nat) (hc0 : v_ct = 0) : Met l y_Trai_takeLatest (wM y_Trai_takeLatest b_Trai_takeLatest 1 (some (.object "StepMachine$Kept"))) ({ frames := 0, cells := 0, slots := 0, locals := 0 }) (va_Pc [.ref a_t] (Pr D tc tb z0 [(a_t, .inr (6, [.ref a_tr, .int v_nx, .int v_ct])), (a_tr, .inl (tc 4, 100, .inr (.inr (.inr (.inr (fun j => some (v_ka j)))))))])) (fun _ st o t => o = .returned (some .null) ∧ t.heap = st.heap) 0 0 (fun _ => False) := by
  refine Met.ofW (cc := b_Trai_takeLatest) (maxL := 1) (ret := (some (.object "StepMachine$Kept"))) (by decide) rfl ?_
  intro p e s m args below meth c s₁ B hml hv
  obtain ⟨rfl, hP, hK, hB⟩ := hv
  have hx := B.exec
  have hb := B.bytes
  have hr := B.returns
  have hts : ∀ w ∈ wALL, w.before _ s = true := fun w h => atoms_spec (ws := (wM y_Trai_takeLatest b_Trai_takeLatest 1 (some (.object "StepMachine$Kept")))) B.pre w (List.mem_cons_of_mem _ h)
  have hown : s.vm.findClass "StepMachine$Trail" = some m.cls := findClass_of_methodNamed B.named
  have hlocks := B.notSynchronized
  have hl := lv_entry ([.ref a_t]) (n := 1) (Nat.le_of_ble_eq_true rfl)
  rw [lg_entry_eq]
  generalize (lg_sl ([.ref a_t]) ++ List.replicate (1 - (lg_sl ([.ref a_t])).length) Slot.unset).toArray = ls at hl ⊢
  have hl : lv_has ls 1 [(0, .ref a_t)] := hl
  refine lv_aload_n hx hb d_Trai_takeLatest_0 rfl (lv_at hl 0 rfl) ?_
  refine va_get (D := D) (ci := 6) (v := .int v_ct) (C := "StepMachine$Trail") (T := TX6) (N := 3) hx hb hts inU_6 hown hK hP 0 rfl rfl 2 (by decide) (hts _ a_116) (fun _ h9 => h9) rfl d_Trai_takeLatest_1 ?_
  refine lv_if_ne (tgt := 9) hx hb d_Trai_takeLatest_4 (by decide) (fun c_4 => absurd hc0 c_4) (fun c_4 => ?_)
  refine lv_null hx hb d_Trai_takeLatest_7 ?_
  exact W.aret (v := .null) hx hb hr (Or.inl ⟨_, rfl⟩) (Or.inl rfl) (fun t ht hW => ⟨rfl, ht⟩) (fun q h => by cases h) d_Trai_takeLatest_8
def cF_Trail_takeLatest1 (v_nx : Int32) (v_ct : Int32) : Int32 × Int32 := ((cF_Trail_place (v_nx - 1)), (v_ct - 1))
set_option maxHeartbeats 4000000 in
set_option maxRecDepth 100000 in
theorem cc_Trail_takeLatest1 (l : Launch) (D : va_G) (tc : Nat → ClassId) (tb : Nat → Nat) (z0 : Nat) (sz : Nat) (a_t a_tr : Nat) (v_nx : Int32) (v_ct : Int32) (v_ka : Nat → Nat) (hc0 : ¬ v_ct = 0) (hn0 : 0 ≤ v_nx.toInt ∧ v_nx.toInt ≤ 99) : Met l y_Trai_takeLatest (wM y_Trai_takeLatest b_Trai_takeLatest 1 (some (.object "StepMachine$Kept"))) ({ frames := 2, cells := 0, slots := 0, locals := 42 }) (va_Pc [.ref a_t] (Pw D tc tb z0 [(a_t, .inr (6, [.ref a_tr, .int v_nx, .int v_ct])), (a_tr, .inl (tc 4, 100, .inr (.inr (.inr (.inr (fun j => some (v_ka j)))))))] sz)) (va_Qr (fun u : Int32 × Int32 => u = (cF_Trail_takeLatest1 v_nx v_ct)) (fun u a t => a = (v_ka (cF_Trail_takeLatest_nx v_nx).toNatClampNeg) ∧ Bw D tc (va_A [(a_t, .inr (6, [.ref a_tr, .int v_nx, .int v_ct])), (a_tr, .inl (tc 4, 100, .inr (.inr (.inr (.inr (fun j => some (v_ka j)))))))] sz) (fun u => [(a_t, .inr (6, [.ref a_tr, .int u.1, .int u.2])), (a_tr, .inl (tc 4, 100, .inr (.inr (.inr (.inr (fun j => some (v_ka j)))))))]) u t) (va_A [(a_t, .inr (6, [.ref a_tr, .int v_nx, .int v_ct])), (a_tr, .inl (tc 4, 100, .inr (.inr (.inr (.inr (fun j => some (v_ka j)))))))] sz)) 0 0 (va_A [(a_t, .inr (6, [.ref a_tr, .int v_nx, .int v_ct])), (a_tr, .inl (tc 4, 100, .inr (.inr (.inr (.inr (fun j => some (v_ka j)))))))] sz) := by
  refine Met.ofW (cc := b_Trai_takeLatest) (maxL := 1) (ret := (some (.object "StepMachine$Kept"))) (by decide) rfl ?_
  intro p e s m args below meth c s₁ B hml hv
  obtain ⟨rfl, hsz, hP, hK, hB, hD0, hZ0⟩ := hv
  have hx := B.exec
  have hb := B.bytes
  have hr := B.returns
  have hts : ∀ w ∈ wALL, w.before _ s = true := fun w h => atoms_spec (ws := (wM y_Trai_takeLatest b_Trai_takeLatest 1 (some (.object "StepMachine$Kept")))) B.pre w (List.mem_cons_of_mem _ h)
  have hown : s.vm.findClass "StepMachine$Trail" = some m.cls := findClass_of_methodNamed B.named
  have hlocks := B.notSynchronized
  subst hsz
  have hD := hD0.self (sz := s.heap.size)
  generalize hAe : va_A [(a_t, .inr (6, [.ref a_tr, .int v_nx, .int v_ct])), (a_tr, .inl (tc 4, 100, .inr (.inr (.inr (.inr (fun j => some (v_ka j)))))))] s.heap.size = A at hD ⊢
  have hZ : ∀ q : Nat, A q → z0 ≤ q := by rw [← hAe]; exact hZ0
  have hA : ∀ q : Nat, s.heap.size ≤ q → A q := fun q h => by rw [← hAe]; exact Or.inr h
  have hS : va_S A s.heap s.heap [] := va_S.rf
  have hl := lv_entry ([.ref a_t]) (n := 1) (Nat.le_of_ble_eq_true rfl)
  rw [lg_entry_eq]
  generalize (lg_sl ([.ref a_t]) ++ List.replicate (1 - (lg_sl ([.ref a_t])).length) Slot.unset).toArray = ls at hl ⊢
  have hl : lv_has ls 1 [(0, .ref a_t)] := hl
  refine lv_aload_n hx hb d_Trai_takeLatest_0 rfl (lv_at hl 0 rfl) ?_
  refine va_get (D := D) (ci := 6) (v := .int v_ct) (C := "StepMachine$Trail") (T := TX6) (N := 3) hx hb hts inU_6 hown hK hP 0 rfl rfl 2 (by decide) (hts _ a_116) (fun _ h9 => h9) rfl d_Trai_takeLatest_1 ?_
  refine lv_if_ne (tgt := 9) hx hb d_Trai_takeLatest_4 (by decide) (fun c_4 => ?_) (fun c_4 => absurd c_4 hc0)
  refine lv_aload_n hx hb d_Trai_takeLatest_9 rfl (lv_at hl 0 rfl) ?_
  refine lv_dup hx hb d_Trai_takeLatest_10 rfl ?_
  refine va_get (D := D) (ci := 6) (v := .int v_ct) (C := "StepMachine$Trail") (T := TX6) (N := 3) hx hb hts inU_6 hown hK hP 0 rfl rfl 2 (by decide) (hts _ a_116) (fun _ h9 => h9) rfl d_Trai_takeLatest_11 ?_
  refine lv_iconst (v := 1) hx hb d_Trai_takeLatest_14 (by decide) ?_
  refine lv_isub hx hb d_Trai_takeLatest_15 ?_
  refine va_put (D := D) (ci := 6) (v := .int (v_ct - 1)) (ty := .int) (C := "StepMachine$Trail") (T := TX6) (N := 3) hx hb hts inU_6 tyX6 tyX6_ok nmX6 hown hK hP hD hS 0 rfl rfl 2 (by decide) (hts _ a_116) (fun _ h9 => h9) rfl (by decide +kernel) rfl rfl (Nat.le_of_ble_eq_true rfl) d_Trai_takeLatest_16 (fun H locs hP hD hS => ?_)
  have hP : va_P D vwCl [(a_t, .inr (6, [.ref a_tr, .int v_nx, .int (v_ct - 1)])), (a_tr, .inl (tc 4, 100, .inr (.inr (.inr (.inr (fun j => some (v_ka j)))))))] H := hP
  have hD : va_D A [(a_t, .inr (6, [.ref a_tr, .int v_nx, .int (v_ct - 1)])), (a_tr, .inl (tc 4, 100, .inr (.inr (.inr (.inr (fun j => some (v_ka j)))))))] := hD
  refine lv_aload_n hx hb d_Trai_takeLatest_19 rfl (lv_at hl 0 rfl) ?_
  refine lv_aload_n hx hb d_Trai_takeLatest_20 rfl (lv_at hl 0 rfl) ?_
  refine va_get (D := D) (ci := 6) (v := .int v_nx) (C := "StepMachine$Trail") (T := TX6) (N := 3) hx hb hts inU_6 hown hK hP 0 rfl rfl 1 (by decide) (hts _ a_115) (fun _ h9 => h9) rfl d_Trai_takeLatest_21 ?_
  refine lv_iconst (v := 1) hx hb d_Trai_takeLatest_24 (by decide) ?_
  refine lv_isub hx hb d_Trai_takeLatest_25 ?_
  refine roSi (As := [.int (v_nx - 1)]) (rest := [.ref a_t]) ⟨hx, hb, hml, hown, hts⟩ (cc_Trail_place l D tc tb z0 (v_nx - 1)) (va_cwS 1 hts (goodS a_482 a_483 a_6 a_484) rfl rfl rfl hs_Trai_place ⟨Nat.le_of_ble_eq_true rfl, Nat.le_of_ble_eq_true rfl⟩) (hP.sub [] rfl) hK (hB.kept hS hZ) rfl hl.1 rfl (Nat.le_of_ble_eq_true rfl) d_Trai_takeLatest_26 ⟨Nat.zero_le _, Nat.zero_le _⟩ ?_
  refine va_put (D := D) (ci := 6) (v := .int (cF_Trail_place (v_nx - 1))) (ty := .int) (C := "StepMachine$Trail") (T := TX6) (N := 3) hx hb hts inU_6 tyX6 tyX6_ok nmX6 hown hK hP hD hS 0 rfl rfl 1 (by decide) (hts _ a_115) (fun _ h9 => h9) rfl (by decide +kernel) rfl rfl (Nat.le_of_ble_eq_true rfl) d_Trai_takeLatest_29 (fun H locs hP hD hS => ?_)
  have hP : va_P D vwCl [(a_t, .inr (6, [.ref a_tr, .int (cF_Trail_place (v_nx - 1)), .int (v_ct - 1)])), (a_tr, .inl (tc 4, 100, .inr (.inr (.inr (.inr (fun j => some (v_ka j)))))))] H := hP
  have hD : va_D A [(a_t, .inr (6, [.ref a_tr, .int (cF_Trail_place (v_nx - 1)), .int (v_ct - 1)])), (a_tr, .inl (tc 4, 100, .inr (.inr (.inr (.inr (fun j => some (v_ka j)))))))] := hD
  refine lv_aload_n hx hb d_Trai_takeLatest_32 rfl (lv_at hl 0 rfl) ?_
  refine va_get (D := D) (ci := 6) (v := .ref a_tr) (C := "StepMachine$Trail") (T := TX6) (N := 3) hx hb hts inU_6 hown hK hP 0 rfl rfl 0 (by decide) (hts _ a_114) (fun _ h9 => h9) rfl d_Trai_takeLatest_33 ?_
  refine lv_aload_n hx hb d_Trai_takeLatest_36 rfl (lv_at hl 0 rfl) ?_
  refine va_get (D := D) (ci := 6) (v := .int (cF_Trail_place (v_nx - 1))) (C := "StepMachine$Trail") (T := TX6) (N := 3) hx hb hts inU_6 hown hK hP 0 rfl rfl 1 (by decide) (hts _ a_115) (fun _ h9 => h9) rfl d_Trai_takeLatest_37 ?_
  refine va_aldq hx hb hK hP 1 4 rfl rfl (ob_nx (tl_rng hn0)) d_Trai_takeLatest_40 ?_
  refine W.eq (g2 := F0 m 41 ls [.ref (v_ka (cF_Trail_place (v_nx - 1)).toNatClampNeg)]) rfl ?_
  exact W.aret (v := .ref (v_ka (cF_Trail_place (v_nx - 1)).toNatClampNeg)) hx hb hr (Or.inl ⟨_, rfl⟩) (Or.inr ⟨_, rfl⟩) (fun t ht hW => ⟨⟨((cF_Trail_place (v_nx - 1)), (v_ct - 1)), (v_ka (cF_Trail_place (v_nx - 1)).toNatClampNeg), rfl, by rw [cF_Trail_takeLatest1], rfl, by rw [ht]; exact hP, va_K.moved hW.alike hK, hD⟩, hS.F ht⟩) hS.2.2 d_Trai_takeLatest_41
theorem tl_rng1 {x y : Int32} (h : 0 ≤ x.toInt ∧ x.toInt ≤ 99) : 0 ≤ (cF_Trail_takeLatest1 x y).1.toInt ∧ (cF_Trail_takeLatest1 x y).1.toInt ≤ 99 := tl_rng h
