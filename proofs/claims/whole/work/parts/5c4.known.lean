theorem ty_int {s : State} {A : Array Value} (h : (Cond.arrayClass .int).before A s = true) : ∃ cA : ClassId, ArrOfT s cA .int ∧ va_RA s cA .int := by
  obtain ⟨cA, kA, comp, h1, h2, h3⟩ := Cond.arrayClass_spec (show (Cond.arrayClass .int).holds _ _ _ _ _ = true from h)
  exact ⟨cA, fun n z => ⟨fun k h => (by cases h), kA, h2, comp, h3⟩, h1⟩
theorem ty_byte {s : State} {A : Array Value} (h : (Cond.arrayClass .byte).before A s = true) : ∃ cA : ClassId, ArrOfT s cA .byte ∧ va_RA s cA .byte := by
  obtain ⟨cA, kA, comp, h1, h2, h3⟩ := Cond.arrayClass_spec (show (Cond.arrayClass .byte).holds _ _ _ _ _ = true from h)
  exact ⟨cA, fun n z => ⟨fun k h => (by cases h), kA, h2, comp, h3⟩, h1⟩
theorem ty_boolean {s : State} {A : Array Value} (h : (Cond.arrayClass .boolean).before A s = true) : ∃ cA : ClassId, ArrOfT s cA .boolean ∧ va_RA s cA .boolean := by
  obtain ⟨cA, kA, comp, h1, h2, h3⟩ := Cond.arrayClass_spec (show (Cond.arrayClass .boolean).holds _ _ _ _ _ = true from h)
  exact ⟨cA, fun n z => ⟨fun k h => (by cases h), kA, h2, comp, h3⟩, h1⟩
theorem ty_kept {s : State} {A : Array Value} (h : (Cond.arrayOver (.object "StepMachine$Kept")).before A s = true) : ∃ cA : ClassId, ArrOfT s cA (.object "StepMachine$Kept") ∧ va_RA s cA (.object "StepMachine$Kept") := by
  obtain ⟨comp, cA, kA, h1, h2, h3, h4, h5⟩ := Cond.arrayOver_spec (show (Cond.arrayOver (.object "StepMachine$Kept")).holds _ _ _ _ _ = true from h)
  exact ⟨cA, fun n z => ⟨fun k h => (by cases h), kA, h3, comp, h4⟩, kA, comp, h3, h4, h1, h5⟩
theorem kn_all {s : State} {b : Nat} (hts0 : ∀ w ∈ lw_tbl, w.before #[Value.ref b] s = true) (hts : ∀ w ∈ wALL, w.before #[Value.ref b] s = true) : ∃ (D : va_G) (tc : Nat → ClassId), va_K D vwCl (tyT tc) s := by
  obtain ⟨c0, i0, k0⟩ := u_known (C := "StepMachine$Memory") (T := TX0) (N := 1) (n := 1) hts inU_0 (hts _ a_24)
  obtain ⟨c1, i1, k1⟩ := u_known (C := "StepMachine$Guard") (T := TX1) (N := 5) (n := 5) hts inU_1 (hts _ a_33)
  obtain ⟨c2, i2, k2⟩ := u_known (C := "StepMachine$Halts") (T := TX2) (N := 2) (n := 2) hts inU_2 (hts _ a_49)
  obtain ⟨c3, i3, k3⟩ := u_known (C := "StepMachine$Ports") (T := TX3) (N := 5) (n := 5) hts inU_3 (hts _ a_59)
  obtain ⟨c4, i4, k4⟩ := u_known (C := "StepMachine$Word") (T := TX4) (N := 6) (n := 6) hts inU_4 (hts _ a_128)
  obtain ⟨c5, i5, k5⟩ := u_known (C := "StepMachine$Kept") (T := TX5) (N := 12) (n := 12) hts inU_5 (hts _ a_86)
  obtain ⟨c6, i6, k6⟩ := u_known (C := "StepMachine$Trail") (T := TX6) (N := 3) (n := 3) hts inU_6 (hts _ a_80)
  obtain ⟨c7, i7, k7⟩ := u_known (C := "StepMachine$Core") (T := TX7) (N := 12) (n := 12) hts inU_7 (hts _ a_122)
  obtain ⟨c8, i8, k8⟩ := u_known (C := "StepMachine") (T := TX8) (N := 6) (n := 6) hts inU_8 (hts _ a_16)
  obtain ⟨c9, i9, k9⟩ := u_known (C := "StepMachineModel") (T := TX9) (N := 29) (n := 29) hts inU_9 (hts _ a_585)
  obtain ⟨a0, a01, a02⟩ := ty_int (hts0 (.arrayClass .int) (List.mem_of_getElem? (i := 84) (by decide +kernel)))
  obtain ⟨a1, a11, a12⟩ := ty_byte (hts0 (.arrayClass .byte) (List.mem_of_getElem? (i := 149) (by decide +kernel)))
  obtain ⟨a2, a21, a22⟩ := ty_boolean (hts0 (.arrayClass .boolean) (List.mem_of_getElem? (i := 869) (by decide +kernel)))
  obtain ⟨a4, a41, a42⟩ := ty_kept (hts0 (.arrayOver (.object "StepMachine$Kept")) (List.mem_of_getElem? (i := 157) (by decide +kernel)))
  refine ⟨(fun k => match k with | 0 => c0 | 1 => c1 | 2 => c2 | 3 => c3 | 4 => c4 | 5 => c5 | 6 => c6 | 7 => c7 | 8 => c8 | _ => c9, fun k => match k with | 0 => i0 | 1 => i1 | 2 => i2 | 3 => i3 | 4 => i4 | 5 => i5 | 6 => i6 | 7 => i7 | 8 => i8 | _ => i9), fun k => match k with | 0 => a0 | 1 => a1 | 2 => a2 | 3 => a0 | _ => a4, fun k q hq => ?_, fun k q hq => ?_⟩
  · match k, hq with
    | 0, hq => cases hq; exact k0
    | 1, hq => cases hq; exact k1
    | 2, hq => cases hq; exact k2
    | 3, hq => cases hq; exact k3
    | 4, hq => cases hq; exact k4
    | 5, hq => cases hq; exact k5
    | 6, hq => cases hq; exact k6
    | 7, hq => cases hq; exact k7
    | 8, hq => cases hq; exact k8
    | 9, hq => cases hq; exact k9
    | k + 10, hq => simp [vwCl] at hq
  · match k, hq with
    | 0, hq => cases hq; exact ⟨a01, a02⟩
    | 1, hq => cases hq; exact ⟨a11, a12⟩
    | 2, hq => cases hq; exact ⟨a21, a22⟩
    | 3, hq => cases hq; exact ⟨a01, a02⟩
    | 4, hq => cases hq; exact ⟨a41, a42⟩
    | k + 5, hq => simp [tyT] at hq
theorem nx_all {s : State} {b : Nat} (hts0 : ∀ w ∈ lw_tbl, w.before #[Value.ref b] s = true) : NX s := ⟨va_AO.of (hts0 (.arrayOver (.object "StepMachine$Kept")) (List.mem_of_getElem? (i := 157) (by decide +kernel))), va_Nw.of rfl (hts0 (.methodLinkNest "StepMachine" 9 y_Memo_init "StepMachine") (List.mem_of_getElem? (i := 75) (by decide +kernel))), va_Nw.of rfl (hts0 (.methodLinkNest "StepMachine" 18 y_Guar_init "StepMachine") (List.mem_of_getElem? (i := 87) (by decide +kernel))), va_Nw.of rfl (hts0 (.methodLinkNest "StepMachine" 25 y_Halt_init "StepMachine") (List.mem_of_getElem? (i := 110) (by decide +kernel))), va_Nw.of rfl (hts0 (.methodLinkNest "StepMachine" 32 y_Port_init "StepMachine") (List.mem_of_getElem? (i := 124) (by decide +kernel))), va_Nw.of rfl (hts0 (.methodLinkNest "StepMachine$Core" 11 y_Word_init "StepMachine") (List.mem_of_getElem? (i := 219) (by decide +kernel))), va_Nw.of rfl (hts0 (.methodLinkNest "StepMachine$Trail" 15 y_Kept_init "StepMachine") (List.mem_of_getElem? (i := 159) (by decide +kernel)))⟩
