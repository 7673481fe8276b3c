-- Trail(): a ring of a hundred new Kept
def poolN (n : Nat) (ka : Nat → Nat) : va_W := (List.range n).map (fun j => (ka j, .inr (5, kf (fun _ => 0))))
def ringN (n : Nat) (ka : Nat → Nat) : Nat → Option Nat := fun j => if j < n then some (ka j) else none
theorem poolN_succ (n : Nat) (ka : Nat → Nat) (a : Nat) : poolN n ka ++ [(a, .inr (5, kf (fun _ => 0)))] = poolN (n + 1) (va_up ka n a) := by
  simp only [poolN, List.range_succ, List.map_append, List.map_cons, List.map_nil, va_up_self]
  congr 1
  apply List.map_congr_left
  intro j hj
  rw [va_up_ne _ _ (by have := List.mem_range.mp hj; omega)]
theorem ringN_succ (n : Nat) (ka : Nat → Nat) (a : Nat) : va_up (ringN n ka) n (some a) = ringN (n + 1) (va_up ka n a) := by
  funext j
  by_cases h : j = n
  · subst h
    simp [ringN, va_up_self]
  · rw [va_up_ne _ _ h]
    unfold ringN
    by_cases h2 : j < n
    · rw [if_pos h2, if_pos (by omega), va_up_ne _ _ h]
    · rw [if_neg h2, if_neg (by omega)]
theorem ringN_0 (ka : Nat → Nat) : (fun _ => none : Nat → Option Nat) = ringN 0 ka := by
  funext j
  simp [ringN]
theorem arrV_congr (cI : ClassId) (N : Nat) {f g : Nat → Value} (h : ∀ j, j < N → f j = g j) : arrV cI N f = arrV cI N g := by
  unfold arrV
  congr 1
  apply Array.ext
  · simp
  · intro i h1 h2
    simp only [Array.getElem_ofFn]
    exact h i (by simpa using h1)
theorem ring_full {D : va_G} {X Y : va_W} {q : Nat} {c4 : ClassId} {ka : Nat → Nat} {x : Nat × va_E} {H : Heap} (h : va_P D vwCl ([x, (q, .inl (c4, 100, .inr (.inr (.inr (.inr (ringN 100 ka))))))] ++ Y) H) : va_P D vwCl ([x, (q, .inl (c4, 100, .inr (.inr (.inr (.inr (fun j => some (ka j)))))))] ++ Y) H := by
  intro k z hk
  match k, hk with
  | 0, hk => exact h 0 z hk
  | 1, hk =>
    cases hk
    have h1 := h 1 _ rfl
    show H[q]? = some (vp_cell c4 (100, .inr (.inr (.inr (.inr (fun j => some (ka j)))))))
    have h2 : H[q]? = some (vp_cell c4 (100, .inr (.inr (.inr (.inr (ringN 100 ka)))))) := h1
    rw [h2, vp_cell_q, vp_cell_q]
    refine congrArg some (arrV_congr _ _ ?_)
    intro j hj
    simp [ringN, hj]
  | k + 2, hk => exact h (k + 2) z hk
theorem ring_fullD {A : Nat → Prop} {Y : va_W} {q : Nat} {e1 e2 : va_E} {x : Nat × va_E} (h : va_D A ([x, (q, e1)] ++ Y)) : va_D A ([x, (q, e2)] ++ Y) := by
  have := h.set (p := 1) (a := q) (e0 := e1) (e := e2) rfl
  exact this
set_option maxHeartbeats 4000000 in
set_option maxRecDepth 100000 in
theorem cc_Trail_init (l : Launch) (D : va_G) (tc : Nat → ClassId) (tb : Nat → Nat) (z0 : Nat) (sz : Nat) (a_0 : Nat) : Met l y_Trai_init (wM y_Trai_init b_Trai_init 2 none) ({ frames := 2, cells := 101, slots := 1300, locals := 44 }) (va_Pc [.ref a_0] (PwN D tc tb z0 [(a_0, .inr (6, [.null, .int 0, .int 0]))] sz)) (va_Qv (fun _ : Nat × (Nat → Nat) => True) (Bw D tc (va_A [(a_0, .inr (6, [.null, .int 0, .int 0]))] sz) (fun u : Nat × (Nat → Nat) => ([(a_0, .inr (6, [.ref u.1, .int 0, .int 0])), (u.1, .inl (tc 4, 100, .inr (.inr (.inr (.inr (fun j => some (u.2 j)))))))] ++ pool u.2 (fun _ _ => 0)))) (va_A [(a_0, .inr (6, [.null, .int 0, .int 0]))] sz)) 101 1300 (va_A [(a_0, .inr (6, [.null, .int 0, .int 0]))] sz) := by
  refine Met.ofW (cc := b_Trai_init) (maxL := 2) (ret := none) (by decide) rfl ?_
  intro p e s m args below meth c s₁ B hml hv
  obtain ⟨rfl, ⟨hsz, hP, hK, hB, hD0, hZ0⟩, hN⟩ := hv
  have hx := B.exec
  have hb := B.bytes
  have hr := B.returns
  have hts : ∀ w ∈ wALL, w.before _ s = true := fun w h => atoms_spec (ws := wM y_Trai_init b_Trai_init 2 none) B.pre w (List.mem_cons_of_mem _ h)
  have hown : s.vm.findClass "StepMachine$Trail" = some m.cls := findClass_of_methodNamed B.named
  have hlocks := B.notSynchronized
  have hin : meth.name = "<init>" := (name_of_methodNamed B.named B.method).1
  subst hsz
  have hD := hD0.self (sz := s.heap.size)
  generalize hAe : va_A [(a_0, .inr (6, [.null, .int 0, .int 0]))] s.heap.size = A at hD ⊢
  have hZ : ∀ q : Nat, A q → z0 ≤ q := by rw [← hAe]; exact hZ0
  have hA : ∀ q : Nat, s.heap.size ≤ q → A q := fun q h => by rw [← hAe]; exact Or.inr h
  have hS : va_S A s.heap s.heap [] := va_S.rf
  have hl := lv_entry ([.ref a_0]) (n := 2) (Nat.le_of_ble_eq_true rfl)
  rw [lg_entry_eq]
  generalize (lg_sl ([.ref a_0]) ++ List.replicate (2 - (lg_sl ([.ref a_0])).length) Slot.unset).toArray = ls at hl ⊢
  have hl : lv_has ls 2 [(0, .ref a_0)] := hl
  refine lv_aload_n hx hb d_Trai_init_0 rfl (lv_at hl 0 rfl) ?_
  refine W.objInit hx hb hown (hts _ a_84) (hts _ a_21) (hts _ a_22) rfl (by rw [hml]; exact hl.1) rfl d_Trai_init_1 (Nat.le_of_ble_eq_true rfl) (Nat.le_of_ble_eq_true rfl) ?_
  refine W.eq (g2 := F0 m 4 ls []) rfl ?_
  refine lv_aload_n hx hb d_Trai_init_4 rfl (lv_at hl 0 rfl) ?_
  refine lv_bipush (v := 100) hx hb d_Trai_init_5 (by decide) ?_
  refine va_newq hx hb hown (hts _ a_85) hN.1 hK hP hD hS hA (n := 100) (N' := 100) (by decide) (by decide) (by decide) (Nat.le_of_ble_eq_true rfl) (Nat.le_of_ble_eq_true rfl) d_Trai_init_7 (fun q cA H hKn hP hD hS => ?_)
  obtain rfl := cls_eq (k := 4) (c0 := tc 4) hKn rfl (fun _ h => by obtain ⟨_, _, _, _, _, h4⟩ := h; exact h4)
  have hP : va_P D vwCl [(a_0, .inr (6, [.null, .int 0, .int 0])), (q, .inl (tc 4, 100, .inr (.inr (.inr (.inr (fun _ => none))))))] H := hP
  have hD : va_D A [(a_0, .inr (6, [.null, .int 0, .int 0])), (q, .inl (tc 4, 100, .inr (.inr (.inr (.inr (fun _ => none))))))] := hD
  refine W.widen (k := 1) (n := 100) (by omega) (by omega) ?_
  refine va_putF (D := D) (ci := 6) (v := .ref q) (ty := .array (.object "StepMachine$Kept")) (C := "StepMachine$Trail") (T := TX6) (N := 3) hx hb hts inU_6 tyX6 tyX6_ok nmX6 hown hK hP hD hS 0 rfl rfl 0 (by decide) (hts _ a_114) (fun _ h9 => h9) rfl hin rfl (by decide +kernel) rfl rfl (Nat.le_of_ble_eq_true rfl) d_Trai_init_10 (fun H locs hP hD hS => ?_)
  have hP : va_P D vwCl [(a_0, .inr (6, [.ref q, .int 0, .int 0])), (q, .inl (tc 4, 100, .inr (.inr (.inr (.inr (fun _ => none))))))] H := hP
  have hD : va_D A [(a_0, .inr (6, [.ref q, .int 0, .int 0])), (q, .inl (tc 4, 100, .inr (.inr (.inr (.inr (fun _ => none))))))] := hD
  refine lv_iconst (v := 0) hx hb d_Trai_init_13 (by decide) ?_
  refine lv_istore_n (lv' := [(1, .int 0), (0, .ref a_0)]) hx hb d_Trai_init_14 rfl hl (by decide) rfl (fun ls hl => ?_)
  have loop : ∀ (n i : Nat) (ka : Nat → Nat) (H : Heap) (locs : List Loc) (ls : Array Slot), i ≤ 100 → 101 ≤ i + n → va_P D vwCl ([(a_0, .inr (6, [.ref q, .int 0, .int 0])), (q, .inl (tc 4, 100, .inr (.inr (.inr (.inr (ringN i ka))))))] ++ poolN i ka) H → va_D A ([(a_0, .inr (6, [.ref q, .int 0, .int 0])), (q, .inl (tc 4, 100, .inr (.inr (.inr (.inr (ringN i ka))))))] ++ poolN i ka) → va_S A s.heap H locs → lv_has ls 2 [(1, .int (nI i)), (0, .ref a_0)] → W p l e (headSpec (wM y_Trai_init b_Trai_init 2 none) ({ frames := 2, cells := 101, slots := 1300, locals := 44 })).room s m ([.ref a_0] : List Value).toArray below meth c H locs (1 + i) (100 + 12 * i) (MQ below (va_Qv (fun _ : Nat × (Nat → Nat) => True) (Bw D tc A (fun u : Nat × (Nat → Nat) => ([(a_0, .inr (6, [.ref u.1, .int 0, .int 0])), (u.1, .inl (tc 4, 100, .inr (.inr (.inr (.inr (fun j => some (u.2 j)))))))] ++ pool u.2 (fun _ _ => 0)))) A) ([.ref a_0] : List Value).toArray s 101 1300 A) (F0 m 15 ls []) := by
    intro n
    induction n with
    | zero =>
      intro i ka H locs ls h1 h2
      exact absurd h2 (by omega)
    | succ n ih =>
      intro i ka H locs ls hi hn hP hD hS hl
      refine lv_iload_n hx hb d_Trai_init_15 rfl (lv_at hl 0 rfl) ?_
      refine lv_bipush (v := 100) hx hb d_Trai_init_16 (by decide) ?_
      refine lv_icmp_ge (tgt := 40) hx hb d_Trai_init_18 (by decide) (fun c_18 => ?_) (fun c_18 => ?_)
      · have h100 : i = 100 := by
          have := Int32.le_iff_toInt_le.mp c_18
          rw [nI_toInt (by omega), show (100 : Int32).toInt = 100 from by decide] at this
          omega
        subst h100
        have hP := ring_full (X := []) hP
        have hD := ring_fullD (e2 := .inl (tc 4, 100, .inr (.inr (.inr (.inr (fun j => some (ka j))))))) hD
        refine W.widen (k := 101) (n := 1300) (by omega) (by omega) ?_
        exact W.vret hx hb hr (fun t ht hW => ⟨⟨(q, ka), rfl, trivial, by rw [ht]; exact hP, va_K.moved hW.alike hK, hD⟩, hS.F ht⟩) hS.2.2 d_Trai_init_40
      · have hlt : i < 100 := by
          have := ob_nle c_18
          rw [nI_toInt (by omega), show (100 : Int32).toInt = 100 from by decide] at this
          omega
        refine lv_aload_n hx hb d_Trai_init_21 rfl (lv_at hl 1 rfl) ?_
        refine va_get (D := D) (ci := 6) (v := .ref q) (C := "StepMachine$Trail") (T := TX6) (N := 3) hx hb hts inU_6 hown hK hP 0 rfl rfl 0 (by decide) (hts _ a_114) (fun _ h9 => h9) rfl d_Trai_init_22 ?_
        refine lv_iload_n hx hb d_Trai_init_25 rfl (lv_at hl 0 rfl) ?_
        refine va_new (ci := 5) (fs := [.int 0, .int 0, .int 0, .int 0, .int 0, .int 0, .int 0, .int 0, .int 0, .int 0, .int 0, .int 0]) (C := "StepMachine$Kept") (T := TX5) (N := 12) hx hb hts inU_5 tyX5 tyX5_ok hown (hts _ a_85) (hts _ a_86) (hts _ a_7) hK hP hD hS hA rfl (fun j hj => by rcases (show j = 0 ∨ j = 1 ∨ j = 2 ∨ j = 3 ∨ j = 4 ∨ j = 5 ∨ j = 6 ∨ j = 7 ∨ j = 8 ∨ j = 9 ∨ j = 10 ∨ j = 11 by omega) with rfl | rfl | rfl | rfl | rfl | rfl | rfl | rfl | rfl | rfl | rfl | rfl <;> rfl) (show 1 + i + 1 ≤ 101 by omega) (show 100 + 12 * i + 12 ≤ 1300 by omega) d_Trai_init_26 (fun a H hP hD hS => ?_)
        have hP := hP.swap
        have hD := hD.swap
        have hP : va_P D vwCl ([(a_0, .inr (6, [.ref q, .int 0, .int 0])), (q, .inl (tc 4, 100, .inr (.inr (.inr (.inr (ringN i ka)))))), (a, .inr (5, [.int 0, .int 0, .int 0, .int 0, .int 0, .int 0, .int 0, .int 0, .int 0, .int 0, .int 0, .int 0]))] ++ poolN i ka) H := hP
        have hD : va_D A ([(a_0, .inr (6, [.ref q, .int 0, .int 0])), (q, .inl (tc 4, 100, .inr (.inr (.inr (.inr (ringN i ka)))))), (a, .inr (5, [.int 0, .int 0, .int 0, .int 0, .int 0, .int 0, .int 0, .int 0, .int 0, .int 0, .int 0, .int 0]))] ++ poolN i ka) := hD
        refine lv_dup hx hb d_Trai_init_29 rfl ?_
        refine wIN (c1 := fun _ => [(a, .inr (5, [.int 0, .int 0, .int 0, .int 0, .int 0, .int 0, .int 0, .int 0, .int 0, .int 0, .int 0, .int 0]))]) (n1 := fun _ => []) (As := []) (rest := [.ref a, .int (nI i), .ref q]) ⟨hx, hb, hml, hown, hts⟩ (cc_Kept_init l D tc tb z0 _ a) ⟨va_cnB 0 hts (goodM a_88) rfl rfl rfl hN.2.2.2.2.2.2 (hts _ a_7) (by decide +kernel) ⟨Nat.le_of_ble_eq_true rfl, Nat.le_of_ble_eq_true rfl⟩, rfl, hts _ a_87⟩ hP hD hS hA hZ hK hB hN [2] rfl (by decide) (fun _ => rfl) (fun _ => rfl) rfl hl.1 rfl (Nat.le_of_ble_eq_true rfl) d_Trai_init_30 ⟨show 1 + i + 1 + 0 ≤ 101 by omega, show 100 + 12 * i + 12 + 0 ≤ 1300 by omega⟩ (fun _ H locs hP hD hS => ?_)
        rw [List.append_nil] at hP hD
        have hP : va_P D vwCl ([(a_0, .inr (6, [.ref q, .int 0, .int 0])), (q, .inl (tc 4, 100, .inr (.inr (.inr (.inr (ringN i ka)))))), (a, .inr (5, [.int 0, .int 0, .int 0, .int 0, .int 0, .int 0, .int 0, .int 0, .int 0, .int 0, .int 0, .int 0]))] ++ poolN i ka) H := hP
        have hD : va_D A ([(a_0, .inr (6, [.ref q, .int 0, .int 0])), (q, .inl (tc 4, 100, .inr (.inr (.inr (.inr (ringN i ka)))))), (a, .inr (5, [.int 0, .int 0, .int 0, .int 0, .int 0, .int 0, .int 0, .int 0, .int 0, .int 0, .int 0, .int 0]))] ++ poolN i ka) := hD
        refine va_astq hx hb hK hP hD hS 1 4 2 5 (r := ("StepMachine$Kept", TX5, 12)) rfl rfl rfl rfl (vp_in_nI hlt (by decide)) d_Trai_init_33 (fun H locs hP hD hS => ?_)
        rw [nI_clamp (by omega)] at hP hD
        have hP : va_P D vwCl (([(a_0, .inr (6, [.ref q, .int 0, .int 0])), (q, .inl (tc 4, 100, .inr (.inr (.inr (.inr (va_up (ringN i ka) i (some a)))))))] ++ [(a, .inr (5, kf (fun _ => 0)))]) ++ poolN i ka) H := hP
        have hD : va_D A (([(a_0, .inr (6, [.ref q, .int 0, .int 0])), (q, .inl (tc 4, 100, .inr (.inr (.inr (.inr (va_up (ringN i ka) i (some a)))))))] ++ [(a, .inr (5, kf (fun _ => 0)))]) ++ poolN i ka) := hD
        have hP := hP.swap
        have hD := hD.swap
        rw [List.append_assoc, poolN_succ, ringN_succ] at hP hD
        refine lv_iinc (v := (nI i + 1)) (lv' := [(1, .int (nI i + 1)), (0, .ref a_0)]) hx hb d_Trai_init_34 hl (k := 0) rfl rfl (by decide) rfl (fun ls hl => ?_)
        refine lv_goto (tgt := 15) hx hb d_Trai_init_37 (by decide) ?_
        rw [nI_1] at hl
        exact W.widen (k := 1 + (i + 1)) (n := 100 + 12 * (i + 1)) (by omega) (by omega) (ih (i + 1) (va_up ka i a) H locs ls hlt (by omega) hP hD hS hl)
  refine W.widen (k := 1 + 0) (n := 100 + 12 * 0) (by omega) (by omega) ?_
  rw [ringN_0 (fun _ => 0)] at hP hD
  exact loop 101 0 (fun _ => 0) H locs ls (by omega) (by omega) hP hD hS (by rw [nI_0]; exact hl)
