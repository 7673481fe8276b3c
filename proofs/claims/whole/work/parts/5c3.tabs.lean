theorem tb_0 {s : State} {b : Nat} (hts0 : ∀ w ∈ lw_tbl, w.before #[Value.ref b] s = true) (hgv : (Jvm.Cond.and given_1 narrow_1).before #[Value.ref b] s = true) : ∃ t : Nat, va_Z (tn_c 0) (tn_f 0) "[I" (.ref t) (fun q => s.heap.size ≤ q) s s.heap ∧ va_T .int t (tn_l 0) (fun j => .int (tn_v 0 j)) (fun q => s.heap.size ≤ q) s s.heap := by
  have hq := flat_of_before _ hgv
  have hno : ∀ a : Nat, a < s.heap.size → ¬ (fun q : Nat => s.heap.size ≤ q) a := fun a ha => Nat.not_le.mpr ha
  have hel : ∀ j : Nat, j < 8 → (Term.elem (Term.static "StepMachine$LongForm" "BRANCHES" "[I") (.int (Int32.ofNat j))).eval #[Value.ref b] s none [] s = some (.int (tn_v 0 j)) := by
    intro j hj
    match j, hj with
    | 0, _ => exact va_eqt (hq (.eq (.elem (Term.static "StepMachine$LongForm" "BRANCHES" "[I") (.int 0)) (.int 4)) (by decide +kernel))
    | 1, _ => exact va_eqt (hq (.eq (.elem (Term.static "StepMachine$LongForm" "BRANCHES" "[I") (.int 1)) (.int 5)) (by decide +kernel))
    | 2, _ => exact va_eqt (hq (.eq (.elem (Term.static "StepMachine$LongForm" "BRANCHES" "[I") (.int 2)) (.int (-1))) (by decide +kernel))
    | 3, _ => exact va_eqt (hq (.eq (.elem (Term.static "StepMachine$LongForm" "BRANCHES" "[I") (.int 3)) (.int (-1))) (by decide +kernel))
    | 4, _ => exact va_eqt (hq (.eq (.elem (Term.static "StepMachine$LongForm" "BRANCHES" "[I") (.int 4)) (.int 6)) (by decide +kernel))
    | 5, _ => exact va_eqt (hq (.eq (.elem (Term.static "StepMachine$LongForm" "BRANCHES" "[I") (.int 5)) (.int 7)) (by decide +kernel))
    | 6, _ => exact va_eqt (hq (.eq (.elem (Term.static "StepMachine$LongForm" "BRANCHES" "[I") (.int 6)) (.int 8)) (by decide +kernel))
    | 7, _ => exact va_eqt (hq (.eq (.elem (Term.static "StepMachine$LongForm" "BRANCHES" "[I") (.int 7)) (.int 9)) (by decide +kernel))
  obtain ⟨t, ht, hT⟩ := va_Tof (tm := (Term.static "StepMachine$LongForm" "BRANCHES" "[I")) (ty := .int) (N := 8) (f := fun j => .int (tn_v 0 j)) (by decide) (hq (.arrayOf (Term.static "StepMachine$LongForm" "BRANCHES" "[I") .int) (by decide +kernel)) (va_eqt (hq (.eq (.length (Term.static "StepMachine$LongForm" "BRANCHES" "[I")) (.int 8)) (by decide +kernel))) hel hno
  exact ⟨t, va_Zof (hts0 (.laysStatic "StepMachine$LongForm" "BRANCHES" "[I") (List.mem_of_getElem? (i := 550) (by decide +kernel))) (hts0 (.initialized "StepMachine$LongForm") (List.mem_of_getElem? (i := 62) (by decide +kernel))) ht hno, hT⟩
theorem tb_1 {s : State} {b : Nat} (hts0 : ∀ w ∈ lw_tbl, w.before #[Value.ref b] s = true) (hgv : (Jvm.Cond.and given_1 narrow_1).before #[Value.ref b] s = true) : ∃ t : Nat, va_Z (tn_c 1) (tn_f 1) "[I" (.ref t) (fun q => s.heap.size ≤ q) s s.heap ∧ va_T .int t (tn_l 1) (fun j => .int (tn_v 1 j)) (fun q => s.heap.size ≤ q) s s.heap := by
  have hq := flat_of_before _ hgv
  have hno : ∀ a : Nat, a < s.heap.size → ¬ (fun q : Nat => s.heap.size ≤ q) a := fun a ha => Nat.not_le.mpr ha
  have hel : ∀ j : Nat, j < 8 → (Term.elem (Term.static "StepMachine$LongForm" "LOADS" "[I") (.int (Int32.ofNat j))).eval #[Value.ref b] s none [] s = some (.int (tn_v 1 j)) := by
    intro j hj
    match j, hj with
    | 0, _ => exact va_eqt (hq (.eq (.elem (Term.static "StepMachine$LongForm" "LOADS" "[I") (.int 0)) (.int 10)) (by decide +kernel))
    | 1, _ => exact va_eqt (hq (.eq (.elem (Term.static "StepMachine$LongForm" "LOADS" "[I") (.int 1)) (.int 11)) (by decide +kernel))
    | 2, _ => exact va_eqt (hq (.eq (.elem (Term.static "StepMachine$LongForm" "LOADS" "[I") (.int 2)) (.int 12)) (by decide +kernel))
    | 3, _ => exact va_eqt (hq (.eq (.elem (Term.static "StepMachine$LongForm" "LOADS" "[I") (.int 3)) (.int (-1))) (by decide +kernel))
    | 4, _ => exact va_eqt (hq (.eq (.elem (Term.static "StepMachine$LongForm" "LOADS" "[I") (.int 4)) (.int 13)) (by decide +kernel))
    | 5, _ => exact va_eqt (hq (.eq (.elem (Term.static "StepMachine$LongForm" "LOADS" "[I") (.int 5)) (.int 14)) (by decide +kernel))
    | 6, _ => exact va_eqt (hq (.eq (.elem (Term.static "StepMachine$LongForm" "LOADS" "[I") (.int 6)) (.int (-1))) (by decide +kernel))
    | 7, _ => exact va_eqt (hq (.eq (.elem (Term.static "StepMachine$LongForm" "LOADS" "[I") (.int 7)) (.int (-1))) (by decide +kernel))
  obtain ⟨t, ht, hT⟩ := va_Tof (tm := (Term.static "StepMachine$LongForm" "LOADS" "[I")) (ty := .int) (N := 8) (f := fun j => .int (tn_v 1 j)) (by decide) (hq (.arrayOf (Term.static "StepMachine$LongForm" "LOADS" "[I") .int) (by decide +kernel)) (va_eqt (hq (.eq (.length (Term.static "StepMachine$LongForm" "LOADS" "[I")) (.int 8)) (by decide +kernel))) hel hno
  exact ⟨t, va_Zof (hts0 (.laysStatic "StepMachine$LongForm" "LOADS" "[I") (List.mem_of_getElem? (i := 558) (by decide +kernel))) (hts0 (.initialized "StepMachine$LongForm") (List.mem_of_getElem? (i := 62) (by decide +kernel))) ht hno, hT⟩
theorem tb_2 {s : State} {b : Nat} (hts0 : ∀ w ∈ lw_tbl, w.before #[Value.ref b] s = true) (hgv : (Jvm.Cond.and given_1 narrow_1).before #[Value.ref b] s = true) : ∃ t : Nat, va_Z (tn_c 2) (tn_f 2) "[I" (.ref t) (fun q => s.heap.size ≤ q) s s.heap ∧ va_T .int t (tn_l 2) (fun j => .int (tn_v 2 j)) (fun q => s.heap.size ≤ q) s s.heap := by
  have hq := flat_of_before _ hgv
  have hno : ∀ a : Nat, a < s.heap.size → ¬ (fun q : Nat => s.heap.size ≤ q) a := fun a ha => Nat.not_le.mpr ha
  have hel : ∀ j : Nat, j < 8 → (Term.elem (Term.static "StepMachine$LongForm" "STORES" "[I") (.int (Int32.ofNat j))).eval #[Value.ref b] s none [] s = some (.int (tn_v 2 j)) := by
    intro j hj
    match j, hj with
    | 0, _ => exact va_eqt (hq (.eq (.elem (Term.static "StepMachine$LongForm" "STORES" "[I") (.int 0)) (.int 15)) (by decide +kernel))
    | 1, _ => exact va_eqt (hq (.eq (.elem (Term.static "StepMachine$LongForm" "STORES" "[I") (.int 1)) (.int 16)) (by decide +kernel))
    | 2, _ => exact va_eqt (hq (.eq (.elem (Term.static "StepMachine$LongForm" "STORES" "[I") (.int 2)) (.int 17)) (by decide +kernel))
    | 3, _ => exact va_eqt (hq (.eq (.elem (Term.static "StepMachine$LongForm" "STORES" "[I") (.int 3)) (.int (-1))) (by decide +kernel))
    | 4, _ => exact va_eqt (hq (.eq (.elem (Term.static "StepMachine$LongForm" "STORES" "[I") (.int 4)) (.int (-1))) (by decide +kernel))
    | 5, _ => exact va_eqt (hq (.eq (.elem (Term.static "StepMachine$LongForm" "STORES" "[I") (.int 5)) (.int (-1))) (by decide +kernel))
    | 6, _ => exact va_eqt (hq (.eq (.elem (Term.static "StepMachine$LongForm" "STORES" "[I") (.int 6)) (.int (-1))) (by decide +kernel))
    | 7, _ => exact va_eqt (hq (.eq (.elem (Term.static "StepMachine$LongForm" "STORES" "[I") (.int 7)) (.int (-1))) (by decide +kernel))
  obtain ⟨t, ht, hT⟩ := va_Tof (tm := (Term.static "StepMachine$LongForm" "STORES" "[I")) (ty := .int) (N := 8) (f := fun j => .int (tn_v 2 j)) (by decide) (hq (.arrayOf (Term.static "StepMachine$LongForm" "STORES" "[I") .int) (by decide +kernel)) (va_eqt (hq (.eq (.length (Term.static "StepMachine$LongForm" "STORES" "[I")) (.int 8)) (by decide +kernel))) hel hno
  exact ⟨t, va_Zof (hts0 (.laysStatic "StepMachine$LongForm" "STORES" "[I") (List.mem_of_getElem? (i := 560) (by decide +kernel))) (hts0 (.initialized "StepMachine$LongForm") (List.mem_of_getElem? (i := 62) (by decide +kernel))) ht hno, hT⟩
theorem tb_3 {s : State} {b : Nat} (hts0 : ∀ w ∈ lw_tbl, w.before #[Value.ref b] s = true) (hgv : (Jvm.Cond.and given_1 narrow_1).before #[Value.ref b] s = true) : ∃ t : Nat, va_Z (tn_c 3) (tn_f 3) "[I" (.ref t) (fun q => s.heap.size ≤ q) s s.heap ∧ va_T .int t (tn_l 3) (fun j => .int (tn_v 3 j)) (fun q => s.heap.size ≤ q) s s.heap := by
  have hq := flat_of_before _ hgv
  have hno : ∀ a : Nat, a < s.heap.size → ¬ (fun q : Nat => s.heap.size ≤ q) a := fun a ha => Nat.not_le.mpr ha
  have hel : ∀ j : Nat, j < 8 → (Term.elem (Term.static "StepMachine$LongForm" "IMMEDIATES" "[I") (.int (Int32.ofNat j))).eval #[Value.ref b] s none [] s = some (.int (tn_v 3 j)) := by
    intro j hj
    match j, hj with
    | 0, _ => exact va_eqt (hq (.eq (.elem (Term.static "StepMachine$LongForm" "IMMEDIATES" "[I") (.int 0)) (.int 18)) (by decide +kernel))
    | 1, _ => exact va_eqt (hq (.eq (.elem (Term.static "StepMachine$LongForm" "IMMEDIATES" "[I") (.int 1)) (.int (-1))) (by decide +kernel))
    | 2, _ => exact va_eqt (hq (.eq (.elem (Term.static "StepMachine$LongForm" "IMMEDIATES" "[I") (.int 2)) (.int 19)) (by decide +kernel))
    | 3, _ => exact va_eqt (hq (.eq (.elem (Term.static "StepMachine$LongForm" "IMMEDIATES" "[I") (.int 3)) (.int 20)) (by decide +kernel))
    | 4, _ => exact va_eqt (hq (.eq (.elem (Term.static "StepMachine$LongForm" "IMMEDIATES" "[I") (.int 4)) (.int 21)) (by decide +kernel))
    | 5, _ => exact va_eqt (hq (.eq (.elem (Term.static "StepMachine$LongForm" "IMMEDIATES" "[I") (.int 5)) (.int (-1))) (by decide +kernel))
    | 6, _ => exact va_eqt (hq (.eq (.elem (Term.static "StepMachine$LongForm" "IMMEDIATES" "[I") (.int 6)) (.int 22)) (by decide +kernel))
    | 7, _ => exact va_eqt (hq (.eq (.elem (Term.static "StepMachine$LongForm" "IMMEDIATES" "[I") (.int 7)) (.int 23)) (by decide +kernel))
  obtain ⟨t, ht, hT⟩ := va_Tof (tm := (Term.static "StepMachine$LongForm" "IMMEDIATES" "[I")) (ty := .int) (N := 8) (f := fun j => .int (tn_v 3 j)) (by decide) (hq (.arrayOf (Term.static "StepMachine$LongForm" "IMMEDIATES" "[I") .int) (by decide +kernel)) (va_eqt (hq (.eq (.length (Term.static "StepMachine$LongForm" "IMMEDIATES" "[I")) (.int 8)) (by decide +kernel))) hel hno
  exact ⟨t, va_Zof (hts0 (.laysStatic "StepMachine$LongForm" "IMMEDIATES" "[I") (List.mem_of_getElem? (i := 571) (by decide +kernel))) (hts0 (.initialized "StepMachine$LongForm") (List.mem_of_getElem? (i := 62) (by decide +kernel))) ht hno, hT⟩
theorem tb_4 {s : State} {b : Nat} (hts0 : ∀ w ∈ lw_tbl, w.before #[Value.ref b] s = true) (hgv : (Jvm.Cond.and given_1 narrow_1).before #[Value.ref b] s = true) : ∃ t : Nat, va_Z (tn_c 4) (tn_f 4) "[I" (.ref t) (fun q => s.heap.size ≤ q) s s.heap ∧ va_T .int t (tn_l 4) (fun j => .int (tn_v 4 j)) (fun q => s.heap.size ≤ q) s s.heap := by
  have hq := flat_of_before _ hgv
  have hno : ∀ a : Nat, a < s.heap.size → ¬ (fun q : Nat => s.heap.size ≤ q) a := fun a ha => Nat.not_le.mpr ha
  have hel : ∀ j : Nat, j < 8 → (Term.elem (Term.static "StepMachine$LongForm" "PLAIN" "[I") (.int (Int32.ofNat j))).eval #[Value.ref b] s none [] s = some (.int (tn_v 4 j)) := by
    intro j hj
    match j, hj with
    | 0, _ => exact va_eqt (hq (.eq (.elem (Term.static "StepMachine$LongForm" "PLAIN" "[I") (.int 0)) (.int 27)) (by decide +kernel))
    | 1, _ => exact va_eqt (hq (.eq (.elem (Term.static "StepMachine$LongForm" "PLAIN" "[I") (.int 1)) (.int 29)) (by decide +kernel))
    | 2, _ => exact va_eqt (hq (.eq (.elem (Term.static "StepMachine$LongForm" "PLAIN" "[I") (.int 2)) (.int 30)) (by decide +kernel))
    | 3, _ => exact va_eqt (hq (.eq (.elem (Term.static "StepMachine$LongForm" "PLAIN" "[I") (.int 3)) (.int 31)) (by decide +kernel))
    | 4, _ => exact va_eqt (hq (.eq (.elem (Term.static "StepMachine$LongForm" "PLAIN" "[I") (.int 4)) (.int 32)) (by decide +kernel))
    | 5, _ => exact va_eqt (hq (.eq (.elem (Term.static "StepMachine$LongForm" "PLAIN" "[I") (.int 5)) (.int 33)) (by decide +kernel))
    | 6, _ => exact va_eqt (hq (.eq (.elem (Term.static "StepMachine$LongForm" "PLAIN" "[I") (.int 6)) (.int 35)) (by decide +kernel))
    | 7, _ => exact va_eqt (hq (.eq (.elem (Term.static "StepMachine$LongForm" "PLAIN" "[I") (.int 7)) (.int 36)) (by decide +kernel))
  obtain ⟨t, ht, hT⟩ := va_Tof (tm := (Term.static "StepMachine$LongForm" "PLAIN" "[I")) (ty := .int) (N := 8) (f := fun j => .int (tn_v 4 j)) (by decide) (hq (.arrayOf (Term.static "StepMachine$LongForm" "PLAIN" "[I") .int) (by decide +kernel)) (va_eqt (hq (.eq (.length (Term.static "StepMachine$LongForm" "PLAIN" "[I")) (.int 8)) (by decide +kernel))) hel hno
  exact ⟨t, va_Zof (hts0 (.laysStatic "StepMachine$LongForm" "PLAIN" "[I") (List.mem_of_getElem? (i := 576) (by decide +kernel))) (hts0 (.initialized "StepMachine$LongForm") (List.mem_of_getElem? (i := 62) (by decide +kernel))) ht hno, hT⟩
theorem tb_5 {s : State} {b : Nat} (hts0 : ∀ w ∈ lw_tbl, w.before #[Value.ref b] s = true) (hgv : (Jvm.Cond.and given_1 narrow_1).before #[Value.ref b] s = true) : ∃ t : Nat, va_Z (tn_c 5) (tn_f 5) "[I" (.ref t) (fun q => s.heap.size ≤ q) s s.heap ∧ va_T .int t (tn_l 5) (fun j => .int (tn_v 5 j)) (fun q => s.heap.size ≤ q) s s.heap := by
  have hq := flat_of_before _ hgv
  have hno : ∀ a : Nat, a < s.heap.size → ¬ (fun q : Nat => s.heap.size ≤ q) a := fun a ha => Nat.not_le.mpr ha
  have hel : ∀ j : Nat, j < 8 → (Term.elem (Term.static "StepMachine$LongForm" "OTHER" "[I") (.int (Int32.ofNat j))).eval #[Value.ref b] s none [] s = some (.int (tn_v 5 j)) := by
    intro j hj
    match j, hj with
    | 0, _ => exact va_eqt (hq (.eq (.elem (Term.static "StepMachine$LongForm" "OTHER" "[I") (.int 0)) (.int 28)) (by decide +kernel))
    | 1, _ => exact va_eqt (hq (.eq (.elem (Term.static "StepMachine$LongForm" "OTHER" "[I") (.int 1)) (.int (-1))) (by decide +kernel))
    | 2, _ => exact va_eqt (hq (.eq (.elem (Term.static "StepMachine$LongForm" "OTHER" "[I") (.int 2)) (.int (-1))) (by decide +kernel))
    | 3, _ => exact va_eqt (hq (.eq (.elem (Term.static "StepMachine$LongForm" "OTHER" "[I") (.int 3)) (.int (-1))) (by decide +kernel))
    | 4, _ => exact va_eqt (hq (.eq (.elem (Term.static "StepMachine$LongForm" "OTHER" "[I") (.int 4)) (.int (-1))) (by decide +kernel))
    | 5, _ => exact va_eqt (hq (.eq (.elem (Term.static "StepMachine$LongForm" "OTHER" "[I") (.int 5)) (.int 34)) (by decide +kernel))
    | 6, _ => exact va_eqt (hq (.eq (.elem (Term.static "StepMachine$LongForm" "OTHER" "[I") (.int 6)) (.int (-1))) (by decide +kernel))
    | 7, _ => exact va_eqt (hq (.eq (.elem (Term.static "StepMachine$LongForm" "OTHER" "[I") (.int 7)) (.int (-1))) (by decide +kernel))
  obtain ⟨t, ht, hT⟩ := va_Tof (tm := (Term.static "StepMachine$LongForm" "OTHER" "[I")) (ty := .int) (N := 8) (f := fun j => .int (tn_v 5 j)) (by decide) (hq (.arrayOf (Term.static "StepMachine$LongForm" "OTHER" "[I") .int) (by decide +kernel)) (va_eqt (hq (.eq (.length (Term.static "StepMachine$LongForm" "OTHER" "[I")) (.int 8)) (by decide +kernel))) hel hno
  exact ⟨t, va_Zof (hts0 (.laysStatic "StepMachine$LongForm" "OTHER" "[I") (List.mem_of_getElem? (i := 580) (by decide +kernel))) (hts0 (.initialized "StepMachine$LongForm") (List.mem_of_getElem? (i := 62) (by decide +kernel))) ht hno, hT⟩
theorem tb_6 {s : State} {b : Nat} (hts0 : ∀ w ∈ lw_tbl, w.before #[Value.ref b] s = true) (hgv : (Jvm.Cond.and given_1 narrow_1).before #[Value.ref b] s = true) : ∃ t : Nat, va_Z (tn_c 6) (tn_f 6) "[I" (.ref t) (fun q => s.heap.size ≤ q) s s.heap ∧ va_T .int t (tn_l 6) (fun j => .int (tn_v 6 j)) (fun q => s.heap.size ≤ q) s s.heap := by
  have hq := flat_of_before _ hgv
  have hno : ∀ a : Nat, a < s.heap.size → ¬ (fun q : Nat => s.heap.size ≤ q) a := fun a ha => Nat.not_le.mpr ha
  have hel : ∀ j : Nat, j < 8 → (Term.elem (Term.static "StepMachine$LongForm" "PRODUCTS" "[I") (.int (Int32.ofNat j))).eval #[Value.ref b] s none [] s = some (.int (tn_v 6 j)) := by
    intro j hj
    match j, hj with
    | 0, _ => exact va_eqt (hq (.eq (.elem (Term.static "StepMachine$LongForm" "PRODUCTS" "[I") (.int 0)) (.int 37)) (by decide +kernel))
    | 1, _ => exact va_eqt (hq (.eq (.elem (Term.static "StepMachine$LongForm" "PRODUCTS" "[I") (.int 1)) (.int 38)) (by decide +kernel))
    | 2, _ => exact va_eqt (hq (.eq (.elem (Term.static "StepMachine$LongForm" "PRODUCTS" "[I") (.int 2)) (.int 39)) (by decide +kernel))
    | 3, _ => exact va_eqt (hq (.eq (.elem (Term.static "StepMachine$LongForm" "PRODUCTS" "[I") (.int 3)) (.int 40)) (by decide +kernel))
    | 4, _ => exact va_eqt (hq (.eq (.elem (Term.static "StepMachine$LongForm" "PRODUCTS" "[I") (.int 4)) (.int 41)) (by decide +kernel))
    | 5, _ => exact va_eqt (hq (.eq (.elem (Term.static "StepMachine$LongForm" "PRODUCTS" "[I") (.int 5)) (.int 42)) (by decide +kernel))
    | 6, _ => exact va_eqt (hq (.eq (.elem (Term.static "StepMachine$LongForm" "PRODUCTS" "[I") (.int 6)) (.int 43)) (by decide +kernel))
    | 7, _ => exact va_eqt (hq (.eq (.elem (Term.static "StepMachine$LongForm" "PRODUCTS" "[I") (.int 7)) (.int 44)) (by decide +kernel))
  obtain ⟨t, ht, hT⟩ := va_Tof (tm := (Term.static "StepMachine$LongForm" "PRODUCTS" "[I")) (ty := .int) (N := 8) (f := fun j => .int (tn_v 6 j)) (by decide) (hq (.arrayOf (Term.static "StepMachine$LongForm" "PRODUCTS" "[I") .int) (by decide +kernel)) (va_eqt (hq (.eq (.length (Term.static "StepMachine$LongForm" "PRODUCTS" "[I")) (.int 8)) (by decide +kernel))) hel hno
  exact ⟨t, va_Zof (hts0 (.laysStatic "StepMachine$LongForm" "PRODUCTS" "[I") (List.mem_of_getElem? (i := 578) (by decide +kernel))) (hts0 (.initialized "StepMachine$LongForm") (List.mem_of_getElem? (i := 62) (by decide +kernel))) ht hno, hT⟩
theorem tb_all {s : State} {b : Nat} (hts0 : ∀ w ∈ lw_tbl, w.before #[Value.ref b] s = true) (hgv : (Jvm.Cond.and given_1 narrow_1).before #[Value.ref b] s = true) : ∃ tb : Nat → Nat, Tbl tb s.heap.size s s.heap := by
  obtain ⟨t0, z0, y0⟩ := tb_0 hts0 hgv
  obtain ⟨t1, z1, y1⟩ := tb_1 hts0 hgv
  obtain ⟨t2, z2, y2⟩ := tb_2 hts0 hgv
  obtain ⟨t3, z3, y3⟩ := tb_3 hts0 hgv
  obtain ⟨t4, z4, y4⟩ := tb_4 hts0 hgv
  obtain ⟨t5, z5, y5⟩ := tb_5 hts0 hgv
  obtain ⟨t6, z6, y6⟩ := tb_6 hts0 hgv
  refine ⟨fun k => match k with | 0 => t0 | 1 => t1 | 2 => t2 | 3 => t3 | 4 => t4 | 5 => t5 | _ => t6, fun k hk => ?_⟩
  match k, hk with
  | 0, _ => exact ⟨z0, y0⟩
  | 1, _ => exact ⟨z1, y1⟩
  | 2, _ => exact ⟨z2, y2⟩
  | 3, _ => exact ⟨z3, y3⟩
  | 4, _ => exact ⟨z4, y4⟩
  | 5, _ => exact ⟨z5, y5⟩
  | 6, _ => exact ⟨z6, y6⟩
  | k + 7, hk => exact absurd hk (by unfold tn_N; omega)
