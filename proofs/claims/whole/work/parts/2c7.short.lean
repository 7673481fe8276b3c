def HiZ (w : Int32) : Prop := ∀ i, 16 ≤ i → w.toBitVec.getLsbD i = false
theorem sel_cut {σ : Nat → Nat} {w x : Int32} (hw : HiZ w) (h : IsSel σ w x) : IsSel (fun i => if 16 ≤ σ i ∧ σ i < 32 then 99 else σ i) w x := fun i hi => by
  rw [h i hi]
  by_cases e : 16 ≤ σ i ∧ σ i < 32
  · simp only [if_pos e, gb_99]
    rw [gb_lt e.2, hw _ e.1]
  · simp only [if_neg e]
theorem sel_zero {σ : Nat → Nat} {w x : Int32} (h : IsSel σ w x) (d : ∀ i, i < 32 → gb w (σ i) = false) : x = 0 := sel_val h fun i hi => by
  rw [d i hi]
  have h1 : ∀ i, i < 32 → (0 : Int32).toBitVec.getLsbD i = false := by decide
  exact (h1 i hi).symm
def subB (σ τ : Nat → Nat) : Bool := (List.range 32).all fun i => decide (σ i = 99) || ((List.range 32).any fun j => decide (τ j = σ i))
theorem ne_of {σ τ : Nat → Nat} {w x y : Int32} (h : IsSel σ w x) (hx : x ≠ 0) (g : IsSel τ w y) (d : subB σ τ = true) : y ≠ 0 := by
  intro e
  refine hx (sel_zero h fun i hi => ?_)
  unfold subB at d
  have d2 := List.all_eq_true.mp d i (List.mem_range.mpr hi)
  rcases Bool.or_eq_true_iff.mp d2 with q | q
  · rw [of_decide_eq_true q, gb_99]
  · obtain ⟨j, h1, h2⟩ := List.any_eq_true.mp q
    rw [← of_decide_eq_true h2, ← g j (List.mem_range.mp h1), e]
    have h3 : ∀ i, i < 32 → (0 : Int32).toBitVec.getLsbD i = false := by decide
    exact h3 j (List.mem_range.mp h1)
theorem ne0_iff (v : Int32) : v ≠ 0 ↔ v.toInt ≠ 0 := by
  rw [Ne, Ne, ← Int32.toInt_inj, show (0 : Int32).toInt = 0 from by decide]
theorem good_iff (P : Nat → Int32) (x : Int32) : ¬ mF_StepMachineModel_areGood P x = 0 ↔ ((mF_StepMachineModel_has x 0 = 0 ∨ ¬ mF_StepMachineModel_isRegister x 0 (P 0) = 0) ∧ (mF_StepMachineModel_has x 1 = 0 ∨ ¬ mF_StepMachineModel_isRegister x 1 (P 1) = 0) ∧ (mF_StepMachineModel_has x 2 = 0 ∨ ¬ mF_StepMachineModel_isRegister x 2 (P 2) = 0) ∧ (mF_StepMachineModel_has x 3 = 0 ∨ ¬ mF_StepMachineModel_isImmediate x (P 3).toInt64 = 0)) := by
  rw [good_eq]
  by_cases a0 : (mF_StepMachineModel_has x 0 = 0 ∨ ¬ mF_StepMachineModel_isRegister x 0 (P 0) = 0)
  · rw [if_pos a0]
    by_cases a1 : (mF_StepMachineModel_has x 1 = 0 ∨ ¬ mF_StepMachineModel_isRegister x 1 (P 1) = 0)
    · rw [if_pos a1]
      by_cases a2 : (mF_StepMachineModel_has x 2 = 0 ∨ ¬ mF_StepMachineModel_isRegister x 2 (P 2) = 0)
      · rw [if_pos a2]
        by_cases a3 : (mF_StepMachineModel_has x 3 = 0 ∨ ¬ mF_StepMachineModel_isImmediate x (P 3).toInt64 = 0)
        · rw [if_pos a3]; exact ⟨fun _ => ⟨a0, a1, a2, a3⟩, fun _ => by decide⟩
        · rw [if_neg a3]; exact ⟨fun q => absurd rfl q, fun q => absurd q.2.2.2 a3⟩
      · rw [if_neg a2]; exact ⟨fun q => absurd rfl q, fun q => absurd q.2.2.1 a2⟩
    · rw [if_neg a1]; exact ⟨fun q => absurd rfl q, fun q => absurd q.2.1 a1⟩
  · rw [if_neg a0]; exact ⟨fun q => absurd rfl q, fun q => absurd q.1 a0⟩
theorem reg_sh {k p : Nat} {w v : Int32} (hk : k < 75) (hp : p < 3) (hs : shN k p = true) (h : IsSel (SP k p) w v) (d : SP k p 3 = 64 ∧ ∀ i, i < 32 → 4 ≤ i → SP k p i = 99) : ¬ mF_StepMachineModel_isRegister (nI k) (nI p) v = 0 := by
  have a := sel_low 4 (by decide) h d.2
  have b : (v &&& 8) = 8 := by
    refine sel_val (sel_and 8 h) fun i hi => ?_
    have h1 : ∀ i, i < 32 → (8 : Int32).toBitVec.getLsbD i = decide (i = 3) := by decide
    rw [h1 i hi]
    by_cases e : i = 3
    · subst e
      rw [if_pos (by decide), d.1, gb_64]; rfl
    · rw [if_neg (by simpa using e), gb_99]
      simp [e]
  have c : 8 ≤ v.toInt := by
    have h2 : ∀ n, n < 16 → (nI n &&& 8) = 8 → 8 ≤ n := by decide
    have e := ti_nI a.1
    rw [e] at b
    have := h2 v.toInt.toNat (by omega) b
    omega
  rw [mF_StepMachineModel_isRegister, if_neg (fun q => by rw [(sho_is k hk p hp).mp q] at hs; exact absurd hs (by decide)), if_neg (fun q => by have := ti_lt q; rw [show (8 : Int32).toInt = 8 from by decide] at this; omega), if_neg (fun q => by have := ti_le q; rw [show (16 : Int32).toInt = 16 from by decide] at this; omega)]
  decide
theorem reg_in {k p : Nat} {w v : Int32} (hk : k < 75) (h48 : 48 ≤ k) (hp : p < 3) (hs : shN k p = false) (h : IsSel (SP k p) w v) : mF_StepMachineModel_isRegister (nI k) (nI p) v = if nI k = 74 then 1 else (if v = 0 then 0 else (if nI k = 56 then (if v = 2 then 0 else 1) else 1)) := by
  have a := sel_low 5 (by decide) h fun i hi h5 => sp_reg k hk p hp i hi h5
  rw [mF_StepMachineModel_isRegister, if_pos ((sho_is k hk p hp).mpr hs), if_neg (fun q => by have := ti_lt q; rw [show (0 : Int32).toInt = 0 from by decide] at this; omega), if_pos (Int32.le_iff_toInt_le.mpr (by rw [show (31 : Int32).toInt = 31 from by decide]; omega)), if_neg (by rw [show (48 : Int32) = nI 48 from rfl, Int32.lt_iff_toInt_lt, nI_toInt (by omega), nI_toInt (by decide)]; omega)]
theorem reg_nz {k p : Nat} {w v : Int32} (hk : k < 75) (h48 : 48 ≤ k) (hp : p < 3) (hs : shN k p = false) (h74 : ¬ nI k = 74) (h56 : ¬ nI k = 56) (h : IsSel (SP k p) w v) : ¬ mF_StepMachineModel_isRegister (nI k) (nI p) v = 0 ↔ v ≠ 0 := by
  rw [reg_in hk h48 hp hs h, if_neg h74, if_neg h56]
  by_cases e : v = 0
  · rw [if_pos e]; exact ⟨fun q => absurd rfl q, fun q => absurd e q⟩
  · rw [if_neg e]; exact ⟨fun _ => e, fun _ => by decide⟩

theorem im_48 {w v : Int32} (h : IsSel (SP 48 3) w v) : ¬ mF_StepMachineModel_isImmediate (nI 48) v.toInt64 = 0 ↔ v ≠ 0 := by
  have a := sel_low 10 (by decide) h (by decide +kernel)
  have b := sel_mul 2 (by decide) h (by decide +kernel)
  rw [show mF_StepMachineModel_isImmediate (nI 48) v.toInt64 = mF_StepMachineModel_isStep v.toInt64 4 1020 4 from rfl, step_is v (by decide), show (4 : Int64).toInt = 4 from by decide, show (1020 : Int64).toInt = 1020 from by decide, ne0_iff]
  by_cases e : v.toInt = 0
  · rw [if_neg (by omega)]; exact ⟨fun q => absurd rfl q, fun q => absurd e q⟩
  · rw [if_pos (by omega)]; exact ⟨fun _ => e, fun _ => by decide⟩
theorem im_49 {w v : Int32} (h : IsSel (SP 49 3) w v) : ¬ mF_StepMachineModel_isImmediate (nI 49) v.toInt64 = 0 ↔ True := by
  have a := sel_low 7 (by decide) h (by decide +kernel)
  have b := sel_mul 2 (by decide) h (by decide +kernel)
  rw [show mF_StepMachineModel_isImmediate (nI 49) v.toInt64 = mF_StepMachineModel_isStep v.toInt64 0 124 4 from rfl, step_is v (by decide), show (0 : Int64).toInt = 0 from by decide, show (124 : Int64).toInt = 124 from by decide, show (4 : Int64).toInt = 4 from by decide, if_pos (by omega)]
  decide
theorem im_50 {w v : Int32} (h : IsSel (SP 50 3) w v) : ¬ mF_StepMachineModel_isImmediate (nI 50) v.toInt64 = 0 ↔ True := by
  have a := sel_low 7 (by decide) h (by decide +kernel)
  have b := sel_mul 2 (by decide) h (by decide +kernel)
  rw [show mF_StepMachineModel_isImmediate (nI 50) v.toInt64 = mF_StepMachineModel_isStep v.toInt64 0 124 4 from rfl, step_is v (by decide), show (0 : Int64).toInt = 0 from by decide, show (124 : Int64).toInt = 124 from by decide, show (4 : Int64).toInt = 4 from by decide, if_pos (by omega)]
  decide
theorem im_52 {w v : Int32} (h : IsSel (SP 52 3) w v) : ¬ mF_StepMachineModel_isImmediate (nI 52) v.toInt64 = 0 ↔ v ≠ 0 := by
  have a := sel_sgn 5 (by decide) h (by decide +kernel)
  rw [show mF_StepMachineModel_isImmediate (nI 52) v.toInt64 = (if (lg_cmp v.toInt64 0) = 0 then 0 else (if (mF_StepMachineModel_isStep v.toInt64 (-32) 31 1) = 0 then 0 else 1)) from rfl, step_is v (by decide), show (-32 : Int64).toInt = -32 from by decide, show (31 : Int64).toInt = 31 from by decide, show (1 : Int64).toInt = 1 from by decide, if_pos (c := _ ∧ _) (by omega), if_neg (show ¬ (1 : Int32) = 0 from by decide)]
  have z : (lg_cmp v.toInt64 0 = 0) ↔ v.toInt = 0 := by
    rw [lg_cmp_eq, ← Int64.toInt_inj, Int32.toInt_toInt64, show (0 : Int64).toInt = 0 from by decide]
  rw [ne0_iff]
  by_cases e : v.toInt = 0
  · rw [if_pos (z.mpr e)]; exact ⟨fun q => absurd rfl q, fun q => absurd e q⟩
  · rw [if_neg (fun q => e (z.mp q))]; exact ⟨fun _ => e, fun _ => by decide⟩
theorem im_53 {w v : Int32} (h : IsSel (SP 53 3) w v) : ¬ mF_StepMachineModel_isImmediate (nI 53) v.toInt64 = 0 ↔ True := by
  have a := sel_sgn 11 (by decide) h (by decide +kernel)
  have b := sel_mul 1 (by decide) h (by decide +kernel)
  rw [show mF_StepMachineModel_isImmediate (nI 53) v.toInt64 = mF_StepMachineModel_isStep v.toInt64 (-2048) 2046 2 from rfl, step_is v (by decide), show (-2048 : Int64).toInt = -2048 from by decide, show (2046 : Int64).toInt = 2046 from by decide, show (2 : Int64).toInt = 2 from by decide, if_pos (by omega)]
  decide
theorem im_54 {w v : Int32} (h : IsSel (SP 54 3) w v) : ¬ mF_StepMachineModel_isImmediate (nI 54) v.toInt64 = 0 ↔ True := by
  have a := sel_sgn 5 (by decide) h (by decide +kernel)
  rw [show mF_StepMachineModel_isImmediate (nI 54) v.toInt64 = mF_StepMachineModel_isStep v.toInt64 (-32) 31 1 from rfl, step_is v (by decide), show (-32 : Int64).toInt = -32 from by decide, show (31 : Int64).toInt = 31 from by decide, show (1 : Int64).toInt = 1 from by decide, if_pos (by omega)]
  decide
theorem im_55 {w v : Int32} (h : IsSel (SP 55 3) w v) : ¬ mF_StepMachineModel_isImmediate (nI 55) v.toInt64 = 0 ↔ v ≠ 0 := by
  have a := sel_sgn 9 (by decide) h (by decide +kernel)
  have b := sel_mul 4 (by decide) h (by decide +kernel)
  rw [show mF_StepMachineModel_isImmediate (nI 55) v.toInt64 = (if (lg_cmp v.toInt64 0) = 0 then 0 else (if (mF_StepMachineModel_isStep v.toInt64 (-512) 496 16) = 0 then 0 else 1)) from rfl, step_is v (by decide), show (-512 : Int64).toInt = -512 from by decide, show (496 : Int64).toInt = 496 from by decide, show (16 : Int64).toInt = 16 from by decide, if_pos (c := _ ∧ _) (by omega), if_neg (show ¬ (1 : Int32) = 0 from by decide)]
  have z : (lg_cmp v.toInt64 0 = 0) ↔ v.toInt = 0 := by
    rw [lg_cmp_eq, ← Int64.toInt_inj, Int32.toInt_toInt64, show (0 : Int64).toInt = 0 from by decide]
  rw [ne0_iff]
  by_cases e : v.toInt = 0
  · rw [if_pos (z.mpr e)]; exact ⟨fun q => absurd rfl q, fun q => absurd e q⟩
  · rw [if_neg (fun q => e (z.mp q))]; exact ⟨fun _ => e, fun _ => by decide⟩
theorem im_57 {w v : Int32} (h : IsSel (SP 57 3) w v) : ¬ mF_StepMachineModel_isImmediate (nI 57) v.toInt64 = 0 ↔ v ≠ 0 := by
  have a := sel_low 5 (by decide) h (by decide +kernel)
  rw [show mF_StepMachineModel_isImmediate (nI 57) v.toInt64 = mF_StepMachineModel_isStep v.toInt64 1 31 1 from rfl, step_is v (by decide), show (1 : Int64).toInt = 1 from by decide, show (31 : Int64).toInt = 31 from by decide, ne0_iff]
  by_cases e : v.toInt = 0
  · rw [if_neg (by omega)]; exact ⟨fun q => absurd rfl q, fun q => absurd e q⟩
  · rw [if_pos (by omega)]; exact ⟨fun _ => e, fun _ => by decide⟩
theorem im_58 {w v : Int32} (h : IsSel (SP 58 3) w v) : ¬ mF_StepMachineModel_isImmediate (nI 58) v.toInt64 = 0 ↔ v ≠ 0 := by
  have a := sel_low 5 (by decide) h (by decide +kernel)
  rw [show mF_StepMachineModel_isImmediate (nI 58) v.toInt64 = mF_StepMachineModel_isStep v.toInt64 1 31 1 from rfl, step_is v (by decide), show (1 : Int64).toInt = 1 from by decide, show (31 : Int64).toInt = 31 from by decide, ne0_iff]
  by_cases e : v.toInt = 0
  · rw [if_neg (by omega)]; exact ⟨fun q => absurd rfl q, fun q => absurd e q⟩
  · rw [if_pos (by omega)]; exact ⟨fun _ => e, fun _ => by decide⟩
theorem im_59 {w v : Int32} (h : IsSel (SP 59 3) w v) : ¬ mF_StepMachineModel_isImmediate (nI 59) v.toInt64 = 0 ↔ True := by
  have a := sel_sgn 5 (by decide) h (by decide +kernel)
  rw [show mF_StepMachineModel_isImmediate (nI 59) v.toInt64 = mF_StepMachineModel_isStep v.toInt64 (-32) 31 1 from rfl, step_is v (by decide), show (-32 : Int64).toInt = -32 from by decide, show (31 : Int64).toInt = 31 from by decide, show (1 : Int64).toInt = 1 from by decide, if_pos (by omega)]
  decide
theorem im_64 {w v : Int32} (h : IsSel (SP 64 3) w v) : ¬ mF_StepMachineModel_isImmediate (nI 64) v.toInt64 = 0 ↔ True := by
  have a := sel_sgn 11 (by decide) h (by decide +kernel)
  have b := sel_mul 1 (by decide) h (by decide +kernel)
  rw [show mF_StepMachineModel_isImmediate (nI 64) v.toInt64 = mF_StepMachineModel_isStep v.toInt64 (-2048) 2046 2 from rfl, step_is v (by decide), show (-2048 : Int64).toInt = -2048 from by decide, show (2046 : Int64).toInt = 2046 from by decide, show (2 : Int64).toInt = 2 from by decide, if_pos (by omega)]
  decide
theorem im_65 {w v : Int32} (h : IsSel (SP 65 3) w v) : ¬ mF_StepMachineModel_isImmediate (nI 65) v.toInt64 = 0 ↔ True := by
  have a := sel_sgn 8 (by decide) h (by decide +kernel)
  have b := sel_mul 1 (by decide) h (by decide +kernel)
  rw [show mF_StepMachineModel_isImmediate (nI 65) v.toInt64 = mF_StepMachineModel_isStep v.toInt64 (-256) 254 2 from rfl, step_is v (by decide), show (-256 : Int64).toInt = -256 from by decide, show (254 : Int64).toInt = 254 from by decide, show (2 : Int64).toInt = 2 from by decide, if_pos (by omega)]
  decide
theorem im_66 {w v : Int32} (h : IsSel (SP 66 3) w v) : ¬ mF_StepMachineModel_isImmediate (nI 66) v.toInt64 = 0 ↔ True := by
  have a := sel_sgn 8 (by decide) h (by decide +kernel)
  have b := sel_mul 1 (by decide) h (by decide +kernel)
  rw [show mF_StepMachineModel_isImmediate (nI 66) v.toInt64 = mF_StepMachineModel_isStep v.toInt64 (-256) 254 2 from rfl, step_is v (by decide), show (-256 : Int64).toInt = -256 from by decide, show (254 : Int64).toInt = 254 from by decide, show (2 : Int64).toInt = 2 from by decide, if_pos (by omega)]
  decide
theorem im_67 {w v : Int32} (h : IsSel (SP 67 3) w v) : ¬ mF_StepMachineModel_isImmediate (nI 67) v.toInt64 = 0 ↔ v ≠ 0 := by
  have a := sel_low 5 (by decide) h (by decide +kernel)
  rw [show mF_StepMachineModel_isImmediate (nI 67) v.toInt64 = mF_StepMachineModel_isStep v.toInt64 1 31 1 from rfl, step_is v (by decide), show (1 : Int64).toInt = 1 from by decide, show (31 : Int64).toInt = 31 from by decide, ne0_iff]
  by_cases e : v.toInt = 0
  · rw [if_neg (by omega)]; exact ⟨fun q => absurd rfl q, fun q => absurd e q⟩
  · rw [if_pos (by omega)]; exact ⟨fun _ => e, fun _ => by decide⟩
theorem im_68 {w v : Int32} (h : IsSel (SP 68 3) w v) : ¬ mF_StepMachineModel_isImmediate (nI 68) v.toInt64 = 0 ↔ True := by
  have a := sel_low 8 (by decide) h (by decide +kernel)
  have b := sel_mul 2 (by decide) h (by decide +kernel)
  rw [show mF_StepMachineModel_isImmediate (nI 68) v.toInt64 = mF_StepMachineModel_isStep v.toInt64 0 252 4 from rfl, step_is v (by decide), show (0 : Int64).toInt = 0 from by decide, show (252 : Int64).toInt = 252 from by decide, show (4 : Int64).toInt = 4 from by decide, if_pos (by omega)]
  decide
theorem im_74 {w v : Int32} (h : IsSel (SP 74 3) w v) : ¬ mF_StepMachineModel_isImmediate (nI 74) v.toInt64 = 0 ↔ True := by
  have a := sel_low 8 (by decide) h (by decide +kernel)
  have b := sel_mul 2 (by decide) h (by decide +kernel)
  rw [show mF_StepMachineModel_isImmediate (nI 74) v.toInt64 = mF_StepMachineModel_isStep v.toInt64 0 252 4 from rfl, step_is v (by decide), show (0 : Int64).toInt = 0 from by decide, show (252 : Int64).toInt = 252 from by decide, show (4 : Int64).toInt = 4 from by decide, if_pos (by omega)]
  decide
theorem im_56 {w v : Int32} (h : IsSel (SP 56 3) w v) : ¬ mF_StepMachineModel_isImmediate (nI 56) v.toInt64 = 0 ↔ v ≠ 0 := by
  have hv : (0 ≤ v.toInt ∧ v.toInt < 32) ∨ (1048544 ≤ v.toInt ∧ v.toInt ≤ 1048575) := by
    have s : ∀ i, i < 32 → SP 56 3 i = if i < 5 then i + 2 else if i < 20 then 12 else 99 := by decide +kernel
    cases e : w.toBitVec.getLsbD 12
    · left
      have h2 : IsSel (fun i => if i < 5 then i + 2 else 99) w v := fun i hi => by
        rw [h i hi, s i hi]
        by_cases e1 : i < 5
        · simp only [if_pos e1]
        · simp only [if_neg e1]
          by_cases e2 : i < 20
          · rw [if_pos e2, gb_lt (by decide), e, gb_99]
          · rw [if_neg e2]
      exact sel_low 5 (by decide) h2 (by decide)
    · right
      have e3 : v = (v &&& 31) + 1048544 := by
        refine (sel_val (sel_add (sel_and 31 h) (sel_const w 1048544) (by decide +kernel)) fun i hi => ?_).symm
        rw [h i hi]
        have q : ∀ i, i < 32 → (31 : Int32).toBitVec.getLsbD i = decide (i < 5) ∧ (1048544 : Int32).toBitVec.getLsbD i = decide (5 ≤ i ∧ i < 20) := by decide
        rw [(q i hi).1, (q i hi).2, s i hi]
        by_cases e1 : i < 5
        · simp [e1, show ¬ i + 2 = 99 by omega]
        · by_cases e2 : i < 20
          · simp [e1, e2, show 5 ≤ i by omega, gb_64, gb_lt (show 12 < 32 by decide), e]
          · simp [e1, e2, show 5 ≤ i by omega]
      have a := sel_low 5 (by decide) (sel_and 31 (sel_self v)) (by decide)
      have e4 : v.toInt = (v &&& 31).toInt + 1048544 := by
        conv => lhs; rw [e3]
        rw [ti_add (by rw [show (1048544 : Int32).toInt = 1048544 from by decide]; omega) (by rw [show (1048544 : Int32).toInt = 1048544 from by decide]; omega), show (1048544 : Int32).toInt = 1048544 from by decide]
      omega
  rw [show mF_StepMachineModel_isImmediate (nI 56) v.toInt64 = (if (mF_StepMachineModel_isStep v.toInt64 1 31 1) = 0 then (if (mF_StepMachineModel_isStep v.toInt64 1048544 1048575 1) = 0 then 0 else 1) else 1) from rfl, step_is v (by decide), step_is v (by decide), show (1 : Int64).toInt = 1 from by decide, show (31 : Int64).toInt = 31 from by decide, show (1048544 : Int64).toInt = 1048544 from by decide, show (1048575 : Int64).toInt = 1048575 from by decide, ne0_iff]
  by_cases e : v.toInt = 0
  · rw [if_neg (c := 1 ≤ v.toInt ∧ _) (by omega), if_pos rfl, if_neg (c := 1048544 ≤ v.toInt ∧ _) (by omega), if_pos rfl]; exact ⟨fun q => absurd rfl q, fun q => absurd e q⟩
  · rcases hv with hv | hv
    · rw [if_pos (c := 1 ≤ v.toInt ∧ _) (by omega), if_neg (by decide)]; exact ⟨fun _ => e, fun _ => by decide⟩
    · rw [if_neg (c := 1 ≤ v.toInt ∧ _) (by omega), if_pos rfl, if_pos (c := 1048544 ≤ v.toInt ∧ _) (by omega), if_neg (by decide)]; exact ⟨fun _ => e, fun _ => by decide⟩
theorem gs_48 {w : Int32} {P : Nat → Int32} (h : ∀ p, p < 4 → IsSel (SP 48 p) w (P p)) : ¬ mF_StepMachineModel_areGood P (nI 48) = 0 ↔ (True ∧ True ∧ True ∧ P 3 ≠ 0) := by
  have c0 : (mF_StepMachineModel_has (nI 48) 0 = 0 ∨ ¬ mF_StepMachineModel_isRegister (nI 48) 0 (P 0) = 0) ↔ True := iff_true_intro (Or.inr (reg_sh (k := 48) (p := 0) (by decide) (by decide) (by decide +kernel) (h 0 (by decide)) (by decide +kernel)))
  have c1 : (mF_StepMachineModel_has (nI 48) 1 = 0 ∨ ¬ mF_StepMachineModel_isRegister (nI 48) 1 (P 1) = 0) ↔ True := iff_true_intro (Or.inl (by decide +kernel))
  have c2 : (mF_StepMachineModel_has (nI 48) 2 = 0 ∨ ¬ mF_StepMachineModel_isRegister (nI 48) 2 (P 2) = 0) ↔ True := iff_true_intro (Or.inl (by decide +kernel))
  have c3 : (mF_StepMachineModel_has (nI 48) 3 = 0 ∨ ¬ mF_StepMachineModel_isImmediate (nI 48) (P 3).toInt64 = 0) ↔ P 3 ≠ 0 := (or_iff_right (by decide +kernel)).trans (im_48 (h 3 (by decide)))
  rw [good_iff, c0, c1, c2, c3]
theorem gs_49 {w : Int32} {P : Nat → Int32} (h : ∀ p, p < 4 → IsSel (SP 49 p) w (P p)) : ¬ mF_StepMachineModel_areGood P (nI 49) = 0 ↔ (True ∧ True ∧ True ∧ True) := by
  have c0 : (mF_StepMachineModel_has (nI 49) 0 = 0 ∨ ¬ mF_StepMachineModel_isRegister (nI 49) 0 (P 0) = 0) ↔ True := iff_true_intro (Or.inr (reg_sh (k := 49) (p := 0) (by decide) (by decide) (by decide +kernel) (h 0 (by decide)) (by decide +kernel)))
  have c1 : (mF_StepMachineModel_has (nI 49) 1 = 0 ∨ ¬ mF_StepMachineModel_isRegister (nI 49) 1 (P 1) = 0) ↔ True := iff_true_intro (Or.inr (reg_sh (k := 49) (p := 1) (by decide) (by decide) (by decide +kernel) (h 1 (by decide)) (by decide +kernel)))
  have c2 : (mF_StepMachineModel_has (nI 49) 2 = 0 ∨ ¬ mF_StepMachineModel_isRegister (nI 49) 2 (P 2) = 0) ↔ True := iff_true_intro (Or.inl (by decide +kernel))
  have c3 : (mF_StepMachineModel_has (nI 49) 3 = 0 ∨ ¬ mF_StepMachineModel_isImmediate (nI 49) (P 3).toInt64 = 0) ↔ True := (or_iff_right (by decide +kernel)).trans (im_49 (h 3 (by decide)))
  rw [good_iff, c0, c1, c2, c3]
theorem gs_50 {w : Int32} {P : Nat → Int32} (h : ∀ p, p < 4 → IsSel (SP 50 p) w (P p)) : ¬ mF_StepMachineModel_areGood P (nI 50) = 0 ↔ (True ∧ True ∧ True ∧ True) := by
  have c0 : (mF_StepMachineModel_has (nI 50) 0 = 0 ∨ ¬ mF_StepMachineModel_isRegister (nI 50) 0 (P 0) = 0) ↔ True := iff_true_intro (Or.inl (by decide +kernel))
  have c1 : (mF_StepMachineModel_has (nI 50) 1 = 0 ∨ ¬ mF_StepMachineModel_isRegister (nI 50) 1 (P 1) = 0) ↔ True := iff_true_intro (Or.inr (reg_sh (k := 50) (p := 1) (by decide) (by decide) (by decide +kernel) (h 1 (by decide)) (by decide +kernel)))
  have c2 : (mF_StepMachineModel_has (nI 50) 2 = 0 ∨ ¬ mF_StepMachineModel_isRegister (nI 50) 2 (P 2) = 0) ↔ True := iff_true_intro (Or.inr (reg_sh (k := 50) (p := 2) (by decide) (by decide) (by decide +kernel) (h 2 (by decide)) (by decide +kernel)))
  have c3 : (mF_StepMachineModel_has (nI 50) 3 = 0 ∨ ¬ mF_StepMachineModel_isImmediate (nI 50) (P 3).toInt64 = 0) ↔ True := (or_iff_right (by decide +kernel)).trans (im_50 (h 3 (by decide)))
  rw [good_iff, c0, c1, c2, c3]
theorem gs_51 {w : Int32} {P : Nat → Int32} (h : ∀ p, p < 4 → IsSel (SP 51 p) w (P p)) : ¬ mF_StepMachineModel_areGood P (nI 51) = 0 ↔ (True ∧ True ∧ True ∧ True) := by
  have c0 : (mF_StepMachineModel_has (nI 51) 0 = 0 ∨ ¬ mF_StepMachineModel_isRegister (nI 51) 0 (P 0) = 0) ↔ True := iff_true_intro (Or.inl (by decide +kernel))
  have c1 : (mF_StepMachineModel_has (nI 51) 1 = 0 ∨ ¬ mF_StepMachineModel_isRegister (nI 51) 1 (P 1) = 0) ↔ True := iff_true_intro (Or.inl (by decide +kernel))
  have c2 : (mF_StepMachineModel_has (nI 51) 2 = 0 ∨ ¬ mF_StepMachineModel_isRegister (nI 51) 2 (P 2) = 0) ↔ True := iff_true_intro (Or.inl (by decide +kernel))
  have c3 : (mF_StepMachineModel_has (nI 51) 3 = 0 ∨ ¬ mF_StepMachineModel_isImmediate (nI 51) (P 3).toInt64 = 0) ↔ True := iff_true_intro (Or.inl (by decide +kernel))
  rw [good_iff, c0, c1, c2, c3]
theorem gs_52 {w : Int32} {P : Nat → Int32} (h : ∀ p, p < 4 → IsSel (SP 52 p) w (P p)) : ¬ mF_StepMachineModel_areGood P (nI 52) = 0 ↔ (P 0 ≠ 0 ∧ True ∧ True ∧ P 3 ≠ 0) := by
  have c0 : (mF_StepMachineModel_has (nI 52) 0 = 0 ∨ ¬ mF_StepMachineModel_isRegister (nI 52) 0 (P 0) = 0) ↔ P 0 ≠ 0 := (or_iff_right (by decide +kernel)).trans (reg_nz (k := 52) (p := 0) (by decide) (by decide) (by decide) (by decide +kernel) (by decide) (by decide) (h 0 (by decide)))
  have c1 : (mF_StepMachineModel_has (nI 52) 1 = 0 ∨ ¬ mF_StepMachineModel_isRegister (nI 52) 1 (P 1) = 0) ↔ True := iff_true_intro (Or.inl (by decide +kernel))
  have c2 : (mF_StepMachineModel_has (nI 52) 2 = 0 ∨ ¬ mF_StepMachineModel_isRegister (nI 52) 2 (P 2) = 0) ↔ True := iff_true_intro (Or.inl (by decide +kernel))
  have c3 : (mF_StepMachineModel_has (nI 52) 3 = 0 ∨ ¬ mF_StepMachineModel_isImmediate (nI 52) (P 3).toInt64 = 0) ↔ P 3 ≠ 0 := (or_iff_right (by decide +kernel)).trans (im_52 (h 3 (by decide)))
  rw [good_iff, c0, c1, c2, c3]
theorem gs_53 {w : Int32} {P : Nat → Int32} (h : ∀ p, p < 4 → IsSel (SP 53 p) w (P p)) : ¬ mF_StepMachineModel_areGood P (nI 53) = 0 ↔ (True ∧ True ∧ True ∧ True) := by
  have c0 : (mF_StepMachineModel_has (nI 53) 0 = 0 ∨ ¬ mF_StepMachineModel_isRegister (nI 53) 0 (P 0) = 0) ↔ True := iff_true_intro (Or.inl (by decide +kernel))
  have c1 : (mF_StepMachineModel_has (nI 53) 1 = 0 ∨ ¬ mF_StepMachineModel_isRegister (nI 53) 1 (P 1) = 0) ↔ True := iff_true_intro (Or.inl (by decide +kernel))
  have c2 : (mF_StepMachineModel_has (nI 53) 2 = 0 ∨ ¬ mF_StepMachineModel_isRegister (nI 53) 2 (P 2) = 0) ↔ True := iff_true_intro (Or.inl (by decide +kernel))
  have c3 : (mF_StepMachineModel_has (nI 53) 3 = 0 ∨ ¬ mF_StepMachineModel_isImmediate (nI 53) (P 3).toInt64 = 0) ↔ True := (or_iff_right (by decide +kernel)).trans (im_53 (h 3 (by decide)))
  rw [good_iff, c0, c1, c2, c3]
theorem gs_54 {w : Int32} {P : Nat → Int32} (h : ∀ p, p < 4 → IsSel (SP 54 p) w (P p)) : ¬ mF_StepMachineModel_areGood P (nI 54) = 0 ↔ (P 0 ≠ 0 ∧ True ∧ True ∧ True) := by
  have c0 : (mF_StepMachineModel_has (nI 54) 0 = 0 ∨ ¬ mF_StepMachineModel_isRegister (nI 54) 0 (P 0) = 0) ↔ P 0 ≠ 0 := (or_iff_right (by decide +kernel)).trans (reg_nz (k := 54) (p := 0) (by decide) (by decide) (by decide) (by decide +kernel) (by decide) (by decide) (h 0 (by decide)))
  have c1 : (mF_StepMachineModel_has (nI 54) 1 = 0 ∨ ¬ mF_StepMachineModel_isRegister (nI 54) 1 (P 1) = 0) ↔ True := iff_true_intro (Or.inl (by decide +kernel))
  have c2 : (mF_StepMachineModel_has (nI 54) 2 = 0 ∨ ¬ mF_StepMachineModel_isRegister (nI 54) 2 (P 2) = 0) ↔ True := iff_true_intro (Or.inl (by decide +kernel))
  have c3 : (mF_StepMachineModel_has (nI 54) 3 = 0 ∨ ¬ mF_StepMachineModel_isImmediate (nI 54) (P 3).toInt64 = 0) ↔ True := (or_iff_right (by decide +kernel)).trans (im_54 (h 3 (by decide)))
  rw [good_iff, c0, c1, c2, c3]
theorem gs_55 {w : Int32} {P : Nat → Int32} (h : ∀ p, p < 4 → IsSel (SP 55 p) w (P p)) : ¬ mF_StepMachineModel_areGood P (nI 55) = 0 ↔ (True ∧ True ∧ True ∧ P 3 ≠ 0) := by
  have c0 : (mF_StepMachineModel_has (nI 55) 0 = 0 ∨ ¬ mF_StepMachineModel_isRegister (nI 55) 0 (P 0) = 0) ↔ True := iff_true_intro (Or.inl (by decide +kernel))
  have c1 : (mF_StepMachineModel_has (nI 55) 1 = 0 ∨ ¬ mF_StepMachineModel_isRegister (nI 55) 1 (P 1) = 0) ↔ True := iff_true_intro (Or.inl (by decide +kernel))
  have c2 : (mF_StepMachineModel_has (nI 55) 2 = 0 ∨ ¬ mF_StepMachineModel_isRegister (nI 55) 2 (P 2) = 0) ↔ True := iff_true_intro (Or.inl (by decide +kernel))
  have c3 : (mF_StepMachineModel_has (nI 55) 3 = 0 ∨ ¬ mF_StepMachineModel_isImmediate (nI 55) (P 3).toInt64 = 0) ↔ P 3 ≠ 0 := (or_iff_right (by decide +kernel)).trans (im_55 (h 3 (by decide)))
  rw [good_iff, c0, c1, c2, c3]
theorem gs_56 {w : Int32} {P : Nat → Int32} (h : ∀ p, p < 4 → IsSel (SP 56 p) w (P p)) : ¬ mF_StepMachineModel_areGood P (nI 56) = 0 ↔ ((P 0 ≠ 0 ∧ P 0 ≠ 2) ∧ True ∧ True ∧ P 3 ≠ 0) := by
  have c0 : (mF_StepMachineModel_has (nI 56) 0 = 0 ∨ ¬ mF_StepMachineModel_isRegister (nI 56) 0 (P 0) = 0) ↔ (P 0 ≠ 0 ∧ P 0 ≠ 2) := (or_iff_right (by decide +kernel)).trans (by
    rw [show mF_StepMachineModel_isRegister (nI 56) 0 (P 0) = _ from reg_in (k := 56) (p := 0) (by decide) (by decide) (by decide) (by decide +kernel) (h 0 (by decide)), if_neg (by decide), if_pos (c := nI 56 = 56) (by decide)]
    by_cases e : P 0 = 0
    · rw [if_pos e]; exact ⟨fun q => absurd rfl q, fun q => absurd e q.1⟩
    · rw [if_neg e]
      by_cases e2 : P 0 = 2
      · rw [if_pos e2]; exact ⟨fun q => absurd rfl q, fun q => absurd e2 q.2⟩
      · rw [if_neg e2]; exact ⟨fun _ => ⟨e, e2⟩, fun _ => by decide⟩)
  have c1 : (mF_StepMachineModel_has (nI 56) 1 = 0 ∨ ¬ mF_StepMachineModel_isRegister (nI 56) 1 (P 1) = 0) ↔ True := iff_true_intro (Or.inl (by decide +kernel))
  have c2 : (mF_StepMachineModel_has (nI 56) 2 = 0 ∨ ¬ mF_StepMachineModel_isRegister (nI 56) 2 (P 2) = 0) ↔ True := iff_true_intro (Or.inl (by decide +kernel))
  have c3 : (mF_StepMachineModel_has (nI 56) 3 = 0 ∨ ¬ mF_StepMachineModel_isImmediate (nI 56) (P 3).toInt64 = 0) ↔ P 3 ≠ 0 := (or_iff_right (by decide +kernel)).trans (im_56 (h 3 (by decide)))
  rw [good_iff, c0, c1, c2, c3]
theorem gs_57 {w : Int32} {P : Nat → Int32} (h : ∀ p, p < 4 → IsSel (SP 57 p) w (P p)) : ¬ mF_StepMachineModel_areGood P (nI 57) = 0 ↔ (True ∧ True ∧ True ∧ P 3 ≠ 0) := by
  have c0 : (mF_StepMachineModel_has (nI 57) 0 = 0 ∨ ¬ mF_StepMachineModel_isRegister (nI 57) 0 (P 0) = 0) ↔ True := iff_true_intro (Or.inr (reg_sh (k := 57) (p := 0) (by decide) (by decide) (by decide +kernel) (h 0 (by decide)) (by decide +kernel)))
  have c1 : (mF_StepMachineModel_has (nI 57) 1 = 0 ∨ ¬ mF_StepMachineModel_isRegister (nI 57) 1 (P 1) = 0) ↔ True := iff_true_intro (Or.inl (by decide +kernel))
  have c2 : (mF_StepMachineModel_has (nI 57) 2 = 0 ∨ ¬ mF_StepMachineModel_isRegister (nI 57) 2 (P 2) = 0) ↔ True := iff_true_intro (Or.inl (by decide +kernel))
  have c3 : (mF_StepMachineModel_has (nI 57) 3 = 0 ∨ ¬ mF_StepMachineModel_isImmediate (nI 57) (P 3).toInt64 = 0) ↔ P 3 ≠ 0 := (or_iff_right (by decide +kernel)).trans (im_57 (h 3 (by decide)))
  rw [good_iff, c0, c1, c2, c3]
theorem gs_58 {w : Int32} {P : Nat → Int32} (h : ∀ p, p < 4 → IsSel (SP 58 p) w (P p)) : ¬ mF_StepMachineModel_areGood P (nI 58) = 0 ↔ (True ∧ True ∧ True ∧ P 3 ≠ 0) := by
  have c0 : (mF_StepMachineModel_has (nI 58) 0 = 0 ∨ ¬ mF_StepMachineModel_isRegister (nI 58) 0 (P 0) = 0) ↔ True := iff_true_intro (Or.inr (reg_sh (k := 58) (p := 0) (by decide) (by decide) (by decide +kernel) (h 0 (by decide)) (by decide +kernel)))
  have c1 : (mF_StepMachineModel_has (nI 58) 1 = 0 ∨ ¬ mF_StepMachineModel_isRegister (nI 58) 1 (P 1) = 0) ↔ True := iff_true_intro (Or.inl (by decide +kernel))
  have c2 : (mF_StepMachineModel_has (nI 58) 2 = 0 ∨ ¬ mF_StepMachineModel_isRegister (nI 58) 2 (P 2) = 0) ↔ True := iff_true_intro (Or.inl (by decide +kernel))
  have c3 : (mF_StepMachineModel_has (nI 58) 3 = 0 ∨ ¬ mF_StepMachineModel_isImmediate (nI 58) (P 3).toInt64 = 0) ↔ P 3 ≠ 0 := (or_iff_right (by decide +kernel)).trans (im_58 (h 3 (by decide)))
  rw [good_iff, c0, c1, c2, c3]
theorem gs_59 {w : Int32} {P : Nat → Int32} (h : ∀ p, p < 4 → IsSel (SP 59 p) w (P p)) : ¬ mF_StepMachineModel_areGood P (nI 59) = 0 ↔ (True ∧ True ∧ True ∧ True) := by
  have c0 : (mF_StepMachineModel_has (nI 59) 0 = 0 ∨ ¬ mF_StepMachineModel_isRegister (nI 59) 0 (P 0) = 0) ↔ True := iff_true_intro (Or.inr (reg_sh (k := 59) (p := 0) (by decide) (by decide) (by decide +kernel) (h 0 (by decide)) (by decide +kernel)))
  have c1 : (mF_StepMachineModel_has (nI 59) 1 = 0 ∨ ¬ mF_StepMachineModel_isRegister (nI 59) 1 (P 1) = 0) ↔ True := iff_true_intro (Or.inl (by decide +kernel))
  have c2 : (mF_StepMachineModel_has (nI 59) 2 = 0 ∨ ¬ mF_StepMachineModel_isRegister (nI 59) 2 (P 2) = 0) ↔ True := iff_true_intro (Or.inl (by decide +kernel))
  have c3 : (mF_StepMachineModel_has (nI 59) 3 = 0 ∨ ¬ mF_StepMachineModel_isImmediate (nI 59) (P 3).toInt64 = 0) ↔ True := (or_iff_right (by decide +kernel)).trans (im_59 (h 3 (by decide)))
  rw [good_iff, c0, c1, c2, c3]
theorem gs_60 {w : Int32} {P : Nat → Int32} (h : ∀ p, p < 4 → IsSel (SP 60 p) w (P p)) : ¬ mF_StepMachineModel_areGood P (nI 60) = 0 ↔ (True ∧ True ∧ True ∧ True) := by
  have c0 : (mF_StepMachineModel_has (nI 60) 0 = 0 ∨ ¬ mF_StepMachineModel_isRegister (nI 60) 0 (P 0) = 0) ↔ True := iff_true_intro (Or.inr (reg_sh (k := 60) (p := 0) (by decide) (by decide) (by decide +kernel) (h 0 (by decide)) (by decide +kernel)))
  have c1 : (mF_StepMachineModel_has (nI 60) 1 = 0 ∨ ¬ mF_StepMachineModel_isRegister (nI 60) 1 (P 1) = 0) ↔ True := iff_true_intro (Or.inl (by decide +kernel))
  have c2 : (mF_StepMachineModel_has (nI 60) 2 = 0 ∨ ¬ mF_StepMachineModel_isRegister (nI 60) 2 (P 2) = 0) ↔ True := iff_true_intro (Or.inr (reg_sh (k := 60) (p := 2) (by decide) (by decide) (by decide +kernel) (h 2 (by decide)) (by decide +kernel)))
  have c3 : (mF_StepMachineModel_has (nI 60) 3 = 0 ∨ ¬ mF_StepMachineModel_isImmediate (nI 60) (P 3).toInt64 = 0) ↔ True := iff_true_intro (Or.inl (by decide +kernel))
  rw [good_iff, c0, c1, c2, c3]
theorem gs_61 {w : Int32} {P : Nat → Int32} (h : ∀ p, p < 4 → IsSel (SP 61 p) w (P p)) : ¬ mF_StepMachineModel_areGood P (nI 61) = 0 ↔ (True ∧ True ∧ True ∧ True) := by
  have c0 : (mF_StepMachineModel_has (nI 61) 0 = 0 ∨ ¬ mF_StepMachineModel_isRegister (nI 61) 0 (P 0) = 0) ↔ True := iff_true_intro (Or.inr (reg_sh (k := 61) (p := 0) (by decide) (by decide) (by decide +kernel) (h 0 (by decide)) (by decide +kernel)))
  have c1 : (mF_StepMachineModel_has (nI 61) 1 = 0 ∨ ¬ mF_StepMachineModel_isRegister (nI 61) 1 (P 1) = 0) ↔ True := iff_true_intro (Or.inl (by decide +kernel))
  have c2 : (mF_StepMachineModel_has (nI 61) 2 = 0 ∨ ¬ mF_StepMachineModel_isRegister (nI 61) 2 (P 2) = 0) ↔ True := iff_true_intro (Or.inr (reg_sh (k := 61) (p := 2) (by decide) (by decide) (by decide +kernel) (h 2 (by decide)) (by decide +kernel)))
  have c3 : (mF_StepMachineModel_has (nI 61) 3 = 0 ∨ ¬ mF_StepMachineModel_isImmediate (nI 61) (P 3).toInt64 = 0) ↔ True := iff_true_intro (Or.inl (by decide +kernel))
  rw [good_iff, c0, c1, c2, c3]
theorem gs_62 {w : Int32} {P : Nat → Int32} (h : ∀ p, p < 4 → IsSel (SP 62 p) w (P p)) : ¬ mF_StepMachineModel_areGood P (nI 62) = 0 ↔ (True ∧ True ∧ True ∧ True) := by
  have c0 : (mF_StepMachineModel_has (nI 62) 0 = 0 ∨ ¬ mF_StepMachineModel_isRegister (nI 62) 0 (P 0) = 0) ↔ True := iff_true_intro (Or.inr (reg_sh (k := 62) (p := 0) (by decide) (by decide) (by decide +kernel) (h 0 (by decide)) (by decide +kernel)))
  have c1 : (mF_StepMachineModel_has (nI 62) 1 = 0 ∨ ¬ mF_StepMachineModel_isRegister (nI 62) 1 (P 1) = 0) ↔ True := iff_true_intro (Or.inl (by decide +kernel))
  have c2 : (mF_StepMachineModel_has (nI 62) 2 = 0 ∨ ¬ mF_StepMachineModel_isRegister (nI 62) 2 (P 2) = 0) ↔ True := iff_true_intro (Or.inr (reg_sh (k := 62) (p := 2) (by decide) (by decide) (by decide +kernel) (h 2 (by decide)) (by decide +kernel)))
  have c3 : (mF_StepMachineModel_has (nI 62) 3 = 0 ∨ ¬ mF_StepMachineModel_isImmediate (nI 62) (P 3).toInt64 = 0) ↔ True := iff_true_intro (Or.inl (by decide +kernel))
  rw [good_iff, c0, c1, c2, c3]
theorem gs_63 {w : Int32} {P : Nat → Int32} (h : ∀ p, p < 4 → IsSel (SP 63 p) w (P p)) : ¬ mF_StepMachineModel_areGood P (nI 63) = 0 ↔ (True ∧ True ∧ True ∧ True) := by
  have c0 : (mF_StepMachineModel_has (nI 63) 0 = 0 ∨ ¬ mF_StepMachineModel_isRegister (nI 63) 0 (P 0) = 0) ↔ True := iff_true_intro (Or.inr (reg_sh (k := 63) (p := 0) (by decide) (by decide) (by decide +kernel) (h 0 (by decide)) (by decide +kernel)))
  have c1 : (mF_StepMachineModel_has (nI 63) 1 = 0 ∨ ¬ mF_StepMachineModel_isRegister (nI 63) 1 (P 1) = 0) ↔ True := iff_true_intro (Or.inl (by decide +kernel))
  have c2 : (mF_StepMachineModel_has (nI 63) 2 = 0 ∨ ¬ mF_StepMachineModel_isRegister (nI 63) 2 (P 2) = 0) ↔ True := iff_true_intro (Or.inr (reg_sh (k := 63) (p := 2) (by decide) (by decide) (by decide +kernel) (h 2 (by decide)) (by decide +kernel)))
  have c3 : (mF_StepMachineModel_has (nI 63) 3 = 0 ∨ ¬ mF_StepMachineModel_isImmediate (nI 63) (P 3).toInt64 = 0) ↔ True := iff_true_intro (Or.inl (by decide +kernel))
  rw [good_iff, c0, c1, c2, c3]
theorem gs_64 {w : Int32} {P : Nat → Int32} (h : ∀ p, p < 4 → IsSel (SP 64 p) w (P p)) : ¬ mF_StepMachineModel_areGood P (nI 64) = 0 ↔ (True ∧ True ∧ True ∧ True) := by
  have c0 : (mF_StepMachineModel_has (nI 64) 0 = 0 ∨ ¬ mF_StepMachineModel_isRegister (nI 64) 0 (P 0) = 0) ↔ True := iff_true_intro (Or.inl (by decide +kernel))
  have c1 : (mF_StepMachineModel_has (nI 64) 1 = 0 ∨ ¬ mF_StepMachineModel_isRegister (nI 64) 1 (P 1) = 0) ↔ True := iff_true_intro (Or.inl (by decide +kernel))
  have c2 : (mF_StepMachineModel_has (nI 64) 2 = 0 ∨ ¬ mF_StepMachineModel_isRegister (nI 64) 2 (P 2) = 0) ↔ True := iff_true_intro (Or.inl (by decide +kernel))
  have c3 : (mF_StepMachineModel_has (nI 64) 3 = 0 ∨ ¬ mF_StepMachineModel_isImmediate (nI 64) (P 3).toInt64 = 0) ↔ True := (or_iff_right (by decide +kernel)).trans (im_64 (h 3 (by decide)))
  rw [good_iff, c0, c1, c2, c3]
theorem gs_65 {w : Int32} {P : Nat → Int32} (h : ∀ p, p < 4 → IsSel (SP 65 p) w (P p)) : ¬ mF_StepMachineModel_areGood P (nI 65) = 0 ↔ (True ∧ True ∧ True ∧ True) := by
  have c0 : (mF_StepMachineModel_has (nI 65) 0 = 0 ∨ ¬ mF_StepMachineModel_isRegister (nI 65) 0 (P 0) = 0) ↔ True := iff_true_intro (Or.inl (by decide +kernel))
  have c1 : (mF_StepMachineModel_has (nI 65) 1 = 0 ∨ ¬ mF_StepMachineModel_isRegister (nI 65) 1 (P 1) = 0) ↔ True := iff_true_intro (Or.inr (reg_sh (k := 65) (p := 1) (by decide) (by decide) (by decide +kernel) (h 1 (by decide)) (by decide +kernel)))
  have c2 : (mF_StepMachineModel_has (nI 65) 2 = 0 ∨ ¬ mF_StepMachineModel_isRegister (nI 65) 2 (P 2) = 0) ↔ True := iff_true_intro (Or.inl (by decide +kernel))
  have c3 : (mF_StepMachineModel_has (nI 65) 3 = 0 ∨ ¬ mF_StepMachineModel_isImmediate (nI 65) (P 3).toInt64 = 0) ↔ True := (or_iff_right (by decide +kernel)).trans (im_65 (h 3 (by decide)))
  rw [good_iff, c0, c1, c2, c3]
theorem gs_66 {w : Int32} {P : Nat → Int32} (h : ∀ p, p < 4 → IsSel (SP 66 p) w (P p)) : ¬ mF_StepMachineModel_areGood P (nI 66) = 0 ↔ (True ∧ True ∧ True ∧ True) := by
  have c0 : (mF_StepMachineModel_has (nI 66) 0 = 0 ∨ ¬ mF_StepMachineModel_isRegister (nI 66) 0 (P 0) = 0) ↔ True := iff_true_intro (Or.inl (by decide +kernel))
  have c1 : (mF_StepMachineModel_has (nI 66) 1 = 0 ∨ ¬ mF_StepMachineModel_isRegister (nI 66) 1 (P 1) = 0) ↔ True := iff_true_intro (Or.inr (reg_sh (k := 66) (p := 1) (by decide) (by decide) (by decide +kernel) (h 1 (by decide)) (by decide +kernel)))
  have c2 : (mF_StepMachineModel_has (nI 66) 2 = 0 ∨ ¬ mF_StepMachineModel_isRegister (nI 66) 2 (P 2) = 0) ↔ True := iff_true_intro (Or.inl (by decide +kernel))
  have c3 : (mF_StepMachineModel_has (nI 66) 3 = 0 ∨ ¬ mF_StepMachineModel_isImmediate (nI 66) (P 3).toInt64 = 0) ↔ True := (or_iff_right (by decide +kernel)).trans (im_66 (h 3 (by decide)))
  rw [good_iff, c0, c1, c2, c3]
theorem gs_67 {w : Int32} {P : Nat → Int32} (h : ∀ p, p < 4 → IsSel (SP 67 p) w (P p)) : ¬ mF_StepMachineModel_areGood P (nI 67) = 0 ↔ (P 0 ≠ 0 ∧ True ∧ True ∧ P 3 ≠ 0) := by
  have c0 : (mF_StepMachineModel_has (nI 67) 0 = 0 ∨ ¬ mF_StepMachineModel_isRegister (nI 67) 0 (P 0) = 0) ↔ P 0 ≠ 0 := (or_iff_right (by decide +kernel)).trans (reg_nz (k := 67) (p := 0) (by decide) (by decide) (by decide) (by decide +kernel) (by decide) (by decide) (h 0 (by decide)))
  have c1 : (mF_StepMachineModel_has (nI 67) 1 = 0 ∨ ¬ mF_StepMachineModel_isRegister (nI 67) 1 (P 1) = 0) ↔ True := iff_true_intro (Or.inl (by decide +kernel))
  have c2 : (mF_StepMachineModel_has (nI 67) 2 = 0 ∨ ¬ mF_StepMachineModel_isRegister (nI 67) 2 (P 2) = 0) ↔ True := iff_true_intro (Or.inl (by decide +kernel))
  have c3 : (mF_StepMachineModel_has (nI 67) 3 = 0 ∨ ¬ mF_StepMachineModel_isImmediate (nI 67) (P 3).toInt64 = 0) ↔ P 3 ≠ 0 := (or_iff_right (by decide +kernel)).trans (im_67 (h 3 (by decide)))
  rw [good_iff, c0, c1, c2, c3]
theorem gs_68 {w : Int32} {P : Nat → Int32} (h : ∀ p, p < 4 → IsSel (SP 68 p) w (P p)) : ¬ mF_StepMachineModel_areGood P (nI 68) = 0 ↔ (P 0 ≠ 0 ∧ True ∧ True ∧ True) := by
  have c0 : (mF_StepMachineModel_has (nI 68) 0 = 0 ∨ ¬ mF_StepMachineModel_isRegister (nI 68) 0 (P 0) = 0) ↔ P 0 ≠ 0 := (or_iff_right (by decide +kernel)).trans (reg_nz (k := 68) (p := 0) (by decide) (by decide) (by decide) (by decide +kernel) (by decide) (by decide) (h 0 (by decide)))
  have c1 : (mF_StepMachineModel_has (nI 68) 1 = 0 ∨ ¬ mF_StepMachineModel_isRegister (nI 68) 1 (P 1) = 0) ↔ True := iff_true_intro (Or.inl (by decide +kernel))
  have c2 : (mF_StepMachineModel_has (nI 68) 2 = 0 ∨ ¬ mF_StepMachineModel_isRegister (nI 68) 2 (P 2) = 0) ↔ True := iff_true_intro (Or.inl (by decide +kernel))
  have c3 : (mF_StepMachineModel_has (nI 68) 3 = 0 ∨ ¬ mF_StepMachineModel_isImmediate (nI 68) (P 3).toInt64 = 0) ↔ True := (or_iff_right (by decide +kernel)).trans (im_68 (h 3 (by decide)))
  rw [good_iff, c0, c1, c2, c3]
theorem gs_69 {w : Int32} {P : Nat → Int32} (h : ∀ p, p < 4 → IsSel (SP 69 p) w (P p)) : ¬ mF_StepMachineModel_areGood P (nI 69) = 0 ↔ (True ∧ P 1 ≠ 0 ∧ True ∧ True) := by
  have c0 : (mF_StepMachineModel_has (nI 69) 0 = 0 ∨ ¬ mF_StepMachineModel_isRegister (nI 69) 0 (P 0) = 0) ↔ True := iff_true_intro (Or.inl (by decide +kernel))
  have c1 : (mF_StepMachineModel_has (nI 69) 1 = 0 ∨ ¬ mF_StepMachineModel_isRegister (nI 69) 1 (P 1) = 0) ↔ P 1 ≠ 0 := (or_iff_right (by decide +kernel)).trans (reg_nz (k := 69) (p := 1) (by decide) (by decide) (by decide) (by decide +kernel) (by decide) (by decide) (h 1 (by decide)))
  have c2 : (mF_StepMachineModel_has (nI 69) 2 = 0 ∨ ¬ mF_StepMachineModel_isRegister (nI 69) 2 (P 2) = 0) ↔ True := iff_true_intro (Or.inl (by decide +kernel))
  have c3 : (mF_StepMachineModel_has (nI 69) 3 = 0 ∨ ¬ mF_StepMachineModel_isImmediate (nI 69) (P 3).toInt64 = 0) ↔ True := iff_true_intro (Or.inl (by decide +kernel))
  rw [good_iff, c0, c1, c2, c3]
theorem gs_70 {w : Int32} {P : Nat → Int32} (h : ∀ p, p < 4 → IsSel (SP 70 p) w (P p)) : ¬ mF_StepMachineModel_areGood P (nI 70) = 0 ↔ (P 0 ≠ 0 ∧ True ∧ P 2 ≠ 0 ∧ True) := by
  have c0 : (mF_StepMachineModel_has (nI 70) 0 = 0 ∨ ¬ mF_StepMachineModel_isRegister (nI 70) 0 (P 0) = 0) ↔ P 0 ≠ 0 := (or_iff_right (by decide +kernel)).trans (reg_nz (k := 70) (p := 0) (by decide) (by decide) (by decide) (by decide +kernel) (by decide) (by decide) (h 0 (by decide)))
  have c1 : (mF_StepMachineModel_has (nI 70) 1 = 0 ∨ ¬ mF_StepMachineModel_isRegister (nI 70) 1 (P 1) = 0) ↔ True := iff_true_intro (Or.inl (by decide +kernel))
  have c2 : (mF_StepMachineModel_has (nI 70) 2 = 0 ∨ ¬ mF_StepMachineModel_isRegister (nI 70) 2 (P 2) = 0) ↔ P 2 ≠ 0 := (or_iff_right (by decide +kernel)).trans (reg_nz (k := 70) (p := 2) (by decide) (by decide) (by decide) (by decide +kernel) (by decide) (by decide) (h 2 (by decide)))
  have c3 : (mF_StepMachineModel_has (nI 70) 3 = 0 ∨ ¬ mF_StepMachineModel_isImmediate (nI 70) (P 3).toInt64 = 0) ↔ True := iff_true_intro (Or.inl (by decide +kernel))
  rw [good_iff, c0, c1, c2, c3]
theorem gs_71 {w : Int32} {P : Nat → Int32} (h : ∀ p, p < 4 → IsSel (SP 71 p) w (P p)) : ¬ mF_StepMachineModel_areGood P (nI 71) = 0 ↔ (True ∧ True ∧ True ∧ True) := by
  have c0 : (mF_StepMachineModel_has (nI 71) 0 = 0 ∨ ¬ mF_StepMachineModel_isRegister (nI 71) 0 (P 0) = 0) ↔ True := iff_true_intro (Or.inl (by decide +kernel))
  have c1 : (mF_StepMachineModel_has (nI 71) 1 = 0 ∨ ¬ mF_StepMachineModel_isRegister (nI 71) 1 (P 1) = 0) ↔ True := iff_true_intro (Or.inl (by decide +kernel))
  have c2 : (mF_StepMachineModel_has (nI 71) 2 = 0 ∨ ¬ mF_StepMachineModel_isRegister (nI 71) 2 (P 2) = 0) ↔ True := iff_true_intro (Or.inl (by decide +kernel))
  have c3 : (mF_StepMachineModel_has (nI 71) 3 = 0 ∨ ¬ mF_StepMachineModel_isImmediate (nI 71) (P 3).toInt64 = 0) ↔ True := iff_true_intro (Or.inl (by decide +kernel))
  rw [good_iff, c0, c1, c2, c3]
theorem gs_72 {w : Int32} {P : Nat → Int32} (h : ∀ p, p < 4 → IsSel (SP 72 p) w (P p)) : ¬ mF_StepMachineModel_areGood P (nI 72) = 0 ↔ (True ∧ P 1 ≠ 0 ∧ True ∧ True) := by
  have c0 : (mF_StepMachineModel_has (nI 72) 0 = 0 ∨ ¬ mF_StepMachineModel_isRegister (nI 72) 0 (P 0) = 0) ↔ True := iff_true_intro (Or.inl (by decide +kernel))
  have c1 : (mF_StepMachineModel_has (nI 72) 1 = 0 ∨ ¬ mF_StepMachineModel_isRegister (nI 72) 1 (P 1) = 0) ↔ P 1 ≠ 0 := (or_iff_right (by decide +kernel)).trans (reg_nz (k := 72) (p := 1) (by decide) (by decide) (by decide) (by decide +kernel) (by decide) (by decide) (h 1 (by decide)))
  have c2 : (mF_StepMachineModel_has (nI 72) 2 = 0 ∨ ¬ mF_StepMachineModel_isRegister (nI 72) 2 (P 2) = 0) ↔ True := iff_true_intro (Or.inl (by decide +kernel))
  have c3 : (mF_StepMachineModel_has (nI 72) 3 = 0 ∨ ¬ mF_StepMachineModel_isImmediate (nI 72) (P 3).toInt64 = 0) ↔ True := iff_true_intro (Or.inl (by decide +kernel))
  rw [good_iff, c0, c1, c2, c3]
theorem gs_73 {w : Int32} {P : Nat → Int32} (h : ∀ p, p < 4 → IsSel (SP 73 p) w (P p)) : ¬ mF_StepMachineModel_areGood P (nI 73) = 0 ↔ (P 0 ≠ 0 ∧ True ∧ P 2 ≠ 0 ∧ True) := by
  have c0 : (mF_StepMachineModel_has (nI 73) 0 = 0 ∨ ¬ mF_StepMachineModel_isRegister (nI 73) 0 (P 0) = 0) ↔ P 0 ≠ 0 := (or_iff_right (by decide +kernel)).trans (reg_nz (k := 73) (p := 0) (by decide) (by decide) (by decide) (by decide +kernel) (by decide) (by decide) (h 0 (by decide)))
  have c1 : (mF_StepMachineModel_has (nI 73) 1 = 0 ∨ ¬ mF_StepMachineModel_isRegister (nI 73) 1 (P 1) = 0) ↔ True := iff_true_intro (Or.inl (by decide +kernel))
  have c2 : (mF_StepMachineModel_has (nI 73) 2 = 0 ∨ ¬ mF_StepMachineModel_isRegister (nI 73) 2 (P 2) = 0) ↔ P 2 ≠ 0 := (or_iff_right (by decide +kernel)).trans (reg_nz (k := 73) (p := 2) (by decide) (by decide) (by decide) (by decide +kernel) (by decide) (by decide) (h 2 (by decide)))
  have c3 : (mF_StepMachineModel_has (nI 73) 3 = 0 ∨ ¬ mF_StepMachineModel_isImmediate (nI 73) (P 3).toInt64 = 0) ↔ True := iff_true_intro (Or.inl (by decide +kernel))
  rw [good_iff, c0, c1, c2, c3]
theorem gs_74 {w : Int32} {P : Nat → Int32} (h : ∀ p, p < 4 → IsSel (SP 74 p) w (P p)) : ¬ mF_StepMachineModel_areGood P (nI 74) = 0 ↔ (True ∧ True ∧ True ∧ True) := by
  have c0 : (mF_StepMachineModel_has (nI 74) 0 = 0 ∨ ¬ mF_StepMachineModel_isRegister (nI 74) 0 (P 0) = 0) ↔ True := iff_true_intro (Or.inl (by decide +kernel))
  have c1 : (mF_StepMachineModel_has (nI 74) 1 = 0 ∨ ¬ mF_StepMachineModel_isRegister (nI 74) 1 (P 1) = 0) ↔ True := iff_true_intro (Or.inl (by decide +kernel))
  have c2 : (mF_StepMachineModel_has (nI 74) 2 = 0 ∨ ¬ mF_StepMachineModel_isRegister (nI 74) 2 (P 2) = 0) ↔ True := iff_true_intro (Or.inr (by rw [show mF_StepMachineModel_isRegister (nI 74) 2 (P 2) = _ from reg_in (k := 74) (p := 2) (by decide) (by decide) (by decide) (by decide +kernel) (h 2 (by decide)), if_pos (by decide)]; decide))
  have c3 : (mF_StepMachineModel_has (nI 74) 3 = 0 ∨ ¬ mF_StepMachineModel_isImmediate (nI 74) (P 3).toInt64 = 0) ↔ True := (or_iff_right (by decide +kernel)).trans (im_74 (h 3 (by decide)))
  rw [good_iff, c0, c1, c2, c3]
def cst (c i : Nat) : Nat := if c.testBit i then 64 else 99
def QT (k p i : Nat) : Nat := if p = 1 then (if k = 52 ∨ (57 ≤ k ∧ k < 64) ∨ k = 67 ∨ k = 73 then SP k 0 i else if k = 48 ∨ k = 55 ∨ k = 68 ∨ k = 74 then cst 2 i else if k = 51 ∨ k = 54 ∨ k = 70 then 99 else SP k 1 i) else if p = 0 then (if k = 51 ∨ k = 64 ∨ k = 69 then 99 else if k = 53 ∨ k = 72 then cst 1 i else if k = 55 then cst 2 i else SP k 0 i) else if p = 2 then (if k = 65 ∨ k = 66 then 99 else SP k 2 i) else (if k = 51 ∨ k = 69 ∨ k = 72 then 99 else SP k 3 i)
theorem sel_cst (w : Int32) {c : Nat} (hc : c < 3) : IsSel (cst c) w (nI c) := sel_of (sel_const w (nI c)) fun i hi => by
  have h : ∀ c, c < 3 → ∀ i, i < 32 → (if (nI c).toBitVec.getLsbD i = true then 64 else 99) = cst c i := by decide
  exact h c hc i hi
theorem sel_nul (w : Int32) : IsSel (fun _ => 99) w 0 := sel_of (sel_const w 0) (by decide)
theorem st_48 {w : Int32} {P : Nat → Int32} (h : ∀ p, p < 4 → IsSel (SP 48 p) w (P p)) : ∃ Q, mF_StepMachineModel_stretch P (nI 48) = (mF_StepMachineModel_put Q (nI 18), Q) ∧ ∀ p, p < 4 → IsSel (QT 48 p) w (Q p) := by
  refine ⟨(upd P 1 2), rfl, fun p hp => ?_⟩
  rcases (show p = 0 ∨ p = 1 ∨ p = 2 ∨ p = 3 by omega) with e | e | e | e <;> subst e
  · exact sel_of (h 0 (by decide)) (by decide +kernel)
  · exact sel_of (sel_cst w (c := 2) (by decide)) (by decide +kernel)
  · exact sel_of (h 2 (by decide)) (by decide +kernel)
  · exact sel_of (h 3 (by decide)) (by decide +kernel)
theorem st_49 {w : Int32} {P : Nat → Int32} (h : ∀ p, p < 4 → IsSel (SP 49 p) w (P p)) : ∃ Q, mF_StepMachineModel_stretch P (nI 49) = (mF_StepMachineModel_put Q (nI 12), Q) ∧ ∀ p, p < 4 → IsSel (QT 49 p) w (Q p) := by
  refine ⟨P, rfl, fun p hp => ?_⟩
  rcases (show p = 0 ∨ p = 1 ∨ p = 2 ∨ p = 3 by omega) with e | e | e | e <;> subst e
  · exact sel_of (h 0 (by decide)) (by decide +kernel)
  · exact sel_of (h 1 (by decide)) (by decide +kernel)
  · exact sel_of (h 2 (by decide)) (by decide +kernel)
  · exact sel_of (h 3 (by decide)) (by decide +kernel)
theorem st_50 {w : Int32} {P : Nat → Int32} (h : ∀ p, p < 4 → IsSel (SP 50 p) w (P p)) : ∃ Q, mF_StepMachineModel_stretch P (nI 50) = (mF_StepMachineModel_put Q (nI 17), Q) ∧ ∀ p, p < 4 → IsSel (QT 50 p) w (Q p) := by
  refine ⟨P, rfl, fun p hp => ?_⟩
  rcases (show p = 0 ∨ p = 1 ∨ p = 2 ∨ p = 3 by omega) with e | e | e | e <;> subst e
  · exact sel_of (h 0 (by decide)) (by decide +kernel)
  · exact sel_of (h 1 (by decide)) (by decide +kernel)
  · exact sel_of (h 2 (by decide)) (by decide +kernel)
  · exact sel_of (h 3 (by decide)) (by decide +kernel)
theorem st_51 {w : Int32} {P : Nat → Int32} (h : ∀ p, p < 4 → IsSel (SP 51 p) w (P p)) : ∃ Q, mF_StepMachineModel_stretch P (nI 51) = (mF_StepMachineModel_put Q (nI 18), Q) ∧ ∀ p, p < 4 → IsSel (QT 51 p) w (Q p) := by
  refine ⟨(upd (upd (upd P 1 0) 0 0) 3 0), rfl, fun p hp => ?_⟩
  rcases (show p = 0 ∨ p = 1 ∨ p = 2 ∨ p = 3 by omega) with e | e | e | e <;> subst e
  · exact sel_of (sel_nul w) (by decide +kernel)
  · exact sel_of (sel_nul w) (by decide +kernel)
  · exact sel_of (h 2 (by decide)) (by decide +kernel)
  · exact sel_of (sel_nul w) (by decide +kernel)
theorem st_52 {w : Int32} {P : Nat → Int32} (h : ∀ p, p < 4 → IsSel (SP 52 p) w (P p)) : ∃ Q, mF_StepMachineModel_stretch P (nI 52) = (mF_StepMachineModel_put Q (nI 18), Q) ∧ ∀ p, p < 4 → IsSel (QT 52 p) w (Q p) := by
  refine ⟨(upd P 1 (P 0)), rfl, fun p hp => ?_⟩
  rcases (show p = 0 ∨ p = 1 ∨ p = 2 ∨ p = 3 by omega) with e | e | e | e <;> subst e
  · exact sel_of (h 0 (by decide)) (by decide +kernel)
  · exact sel_of (h 0 (by decide)) (by decide +kernel)
  · exact sel_of (h 2 (by decide)) (by decide +kernel)
  · exact sel_of (h 3 (by decide)) (by decide +kernel)
theorem st_53 {w : Int32} {P : Nat → Int32} (h : ∀ p, p < 4 → IsSel (SP 53 p) w (P p)) : ∃ Q, mF_StepMachineModel_stretch P (nI 53) = (mF_StepMachineModel_put Q (nI 2), Q) ∧ ∀ p, p < 4 → IsSel (QT 53 p) w (Q p) := by
  refine ⟨(upd P 0 1), rfl, fun p hp => ?_⟩
  rcases (show p = 0 ∨ p = 1 ∨ p = 2 ∨ p = 3 by omega) with e | e | e | e <;> subst e
  · exact sel_of (sel_cst w (c := 1) (by decide)) (by decide +kernel)
  · exact sel_of (h 1 (by decide)) (by decide +kernel)
  · exact sel_of (h 2 (by decide)) (by decide +kernel)
  · exact sel_of (h 3 (by decide)) (by decide +kernel)
theorem st_54 {w : Int32} {P : Nat → Int32} (h : ∀ p, p < 4 → IsSel (SP 54 p) w (P p)) : ∃ Q, mF_StepMachineModel_stretch P (nI 54) = (mF_StepMachineModel_put Q (nI 18), Q) ∧ ∀ p, p < 4 → IsSel (QT 54 p) w (Q p) := by
  refine ⟨(upd P 1 0), rfl, fun p hp => ?_⟩
  rcases (show p = 0 ∨ p = 1 ∨ p = 2 ∨ p = 3 by omega) with e | e | e | e <;> subst e
  · exact sel_of (h 0 (by decide)) (by decide +kernel)
  · exact sel_of (sel_nul w) (by decide +kernel)
  · exact sel_of (h 2 (by decide)) (by decide +kernel)
  · exact sel_of (h 3 (by decide)) (by decide +kernel)
theorem st_55 {w : Int32} {P : Nat → Int32} (h : ∀ p, p < 4 → IsSel (SP 55 p) w (P p)) : ∃ Q, mF_StepMachineModel_stretch P (nI 55) = (mF_StepMachineModel_put Q (nI 18), Q) ∧ ∀ p, p < 4 → IsSel (QT 55 p) w (Q p) := by
  refine ⟨(upd (upd P 1 2) 0 2), rfl, fun p hp => ?_⟩
  rcases (show p = 0 ∨ p = 1 ∨ p = 2 ∨ p = 3 by omega) with e | e | e | e <;> subst e
  · exact sel_of (sel_cst w (c := 2) (by decide)) (by decide +kernel)
  · exact sel_of (sel_cst w (c := 2) (by decide)) (by decide +kernel)
  · exact sel_of (h 2 (by decide)) (by decide +kernel)
  · exact sel_of (h 3 (by decide)) (by decide +kernel)
theorem st_56 {w : Int32} {P : Nat → Int32} (h : ∀ p, p < 4 → IsSel (SP 56 p) w (P p)) : ∃ Q, mF_StepMachineModel_stretch P (nI 56) = (mF_StepMachineModel_put Q (nI 0), Q) ∧ ∀ p, p < 4 → IsSel (QT 56 p) w (Q p) := by
  refine ⟨P, rfl, fun p hp => ?_⟩
  rcases (show p = 0 ∨ p = 1 ∨ p = 2 ∨ p = 3 by omega) with e | e | e | e <;> subst e
  · exact sel_of (h 0 (by decide)) (by decide +kernel)
  · exact sel_of (h 1 (by decide)) (by decide +kernel)
  · exact sel_of (h 2 (by decide)) (by decide +kernel)
  · exact sel_of (h 3 (by decide)) (by decide +kernel)
theorem st_57 {w : Int32} {P : Nat → Int32} (h : ∀ p, p < 4 → IsSel (SP 57 p) w (P p)) : ∃ Q, mF_StepMachineModel_stretch P (nI 57) = (mF_StepMachineModel_put Q (nI 25), Q) ∧ ∀ p, p < 4 → IsSel (QT 57 p) w (Q p) := by
  refine ⟨(upd P 1 (P 0)), rfl, fun p hp => ?_⟩
  rcases (show p = 0 ∨ p = 1 ∨ p = 2 ∨ p = 3 by omega) with e | e | e | e <;> subst e
  · exact sel_of (h 0 (by decide)) (by decide +kernel)
  · exact sel_of (h 0 (by decide)) (by decide +kernel)
  · exact sel_of (h 2 (by decide)) (by decide +kernel)
  · exact sel_of (h 3 (by decide)) (by decide +kernel)
theorem st_58 {w : Int32} {P : Nat → Int32} (h : ∀ p, p < 4 → IsSel (SP 58 p) w (P p)) : ∃ Q, mF_StepMachineModel_stretch P (nI 58) = (mF_StepMachineModel_put Q (nI 26), Q) ∧ ∀ p, p < 4 → IsSel (QT 58 p) w (Q p) := by
  refine ⟨(upd P 1 (P 0)), rfl, fun p hp => ?_⟩
  rcases (show p = 0 ∨ p = 1 ∨ p = 2 ∨ p = 3 by omega) with e | e | e | e <;> subst e
  · exact sel_of (h 0 (by decide)) (by decide +kernel)
  · exact sel_of (h 0 (by decide)) (by decide +kernel)
  · exact sel_of (h 2 (by decide)) (by decide +kernel)
  · exact sel_of (h 3 (by decide)) (by decide +kernel)
theorem st_59 {w : Int32} {P : Nat → Int32} (h : ∀ p, p < 4 → IsSel (SP 59 p) w (P p)) : ∃ Q, mF_StepMachineModel_stretch P (nI 59) = (mF_StepMachineModel_put Q (nI 23), Q) ∧ ∀ p, p < 4 → IsSel (QT 59 p) w (Q p) := by
  refine ⟨(upd P 1 (P 0)), rfl, fun p hp => ?_⟩
  rcases (show p = 0 ∨ p = 1 ∨ p = 2 ∨ p = 3 by omega) with e | e | e | e <;> subst e
  · exact sel_of (h 0 (by decide)) (by decide +kernel)
  · exact sel_of (h 0 (by decide)) (by decide +kernel)
  · exact sel_of (h 2 (by decide)) (by decide +kernel)
  · exact sel_of (h 3 (by decide)) (by decide +kernel)
theorem st_60 {w : Int32} {P : Nat → Int32} (h : ∀ p, p < 4 → IsSel (SP 60 p) w (P p)) : ∃ Q, mF_StepMachineModel_stretch P (nI 60) = (mF_StepMachineModel_put Q (nI 28), Q) ∧ ∀ p, p < 4 → IsSel (QT 60 p) w (Q p) := by
  refine ⟨(upd P 1 (P 0)), rfl, fun p hp => ?_⟩
  rcases (show p = 0 ∨ p = 1 ∨ p = 2 ∨ p = 3 by omega) with e | e | e | e <;> subst e
  · exact sel_of (h 0 (by decide)) (by decide +kernel)
  · exact sel_of (h 0 (by decide)) (by decide +kernel)
  · exact sel_of (h 2 (by decide)) (by decide +kernel)
  · exact sel_of (h 3 (by decide)) (by decide +kernel)
theorem st_61 {w : Int32} {P : Nat → Int32} (h : ∀ p, p < 4 → IsSel (SP 61 p) w (P p)) : ∃ Q, mF_StepMachineModel_stretch P (nI 61) = (mF_StepMachineModel_put Q (nI 32), Q) ∧ ∀ p, p < 4 → IsSel (QT 61 p) w (Q p) := by
  refine ⟨(upd P 1 (P 0)), rfl, fun p hp => ?_⟩
  rcases (show p = 0 ∨ p = 1 ∨ p = 2 ∨ p = 3 by omega) with e | e | e | e <;> subst e
  · exact sel_of (h 0 (by decide)) (by decide +kernel)
  · exact sel_of (h 0 (by decide)) (by decide +kernel)
  · exact sel_of (h 2 (by decide)) (by decide +kernel)
  · exact sel_of (h 3 (by decide)) (by decide +kernel)
theorem st_62 {w : Int32} {P : Nat → Int32} (h : ∀ p, p < 4 → IsSel (SP 62 p) w (P p)) : ∃ Q, mF_StepMachineModel_stretch P (nI 62) = (mF_StepMachineModel_put Q (nI 35), Q) ∧ ∀ p, p < 4 → IsSel (QT 62 p) w (Q p) := by
  refine ⟨(upd P 1 (P 0)), rfl, fun p hp => ?_⟩
  rcases (show p = 0 ∨ p = 1 ∨ p = 2 ∨ p = 3 by omega) with e | e | e | e <;> subst e
  · exact sel_of (h 0 (by decide)) (by decide +kernel)
  · exact sel_of (h 0 (by decide)) (by decide +kernel)
  · exact sel_of (h 2 (by decide)) (by decide +kernel)
  · exact sel_of (h 3 (by decide)) (by decide +kernel)
theorem st_63 {w : Int32} {P : Nat → Int32} (h : ∀ p, p < 4 → IsSel (SP 63 p) w (P p)) : ∃ Q, mF_StepMachineModel_stretch P (nI 63) = (mF_StepMachineModel_put Q (nI 36), Q) ∧ ∀ p, p < 4 → IsSel (QT 63 p) w (Q p) := by
  refine ⟨(upd P 1 (P 0)), rfl, fun p hp => ?_⟩
  rcases (show p = 0 ∨ p = 1 ∨ p = 2 ∨ p = 3 by omega) with e | e | e | e <;> subst e
  · exact sel_of (h 0 (by decide)) (by decide +kernel)
  · exact sel_of (h 0 (by decide)) (by decide +kernel)
  · exact sel_of (h 2 (by decide)) (by decide +kernel)
  · exact sel_of (h 3 (by decide)) (by decide +kernel)
theorem st_64 {w : Int32} {P : Nat → Int32} (h : ∀ p, p < 4 → IsSel (SP 64 p) w (P p)) : ∃ Q, mF_StepMachineModel_stretch P (nI 64) = (mF_StepMachineModel_put Q (nI 2), Q) ∧ ∀ p, p < 4 → IsSel (QT 64 p) w (Q p) := by
  refine ⟨(upd P 0 0), rfl, fun p hp => ?_⟩
  rcases (show p = 0 ∨ p = 1 ∨ p = 2 ∨ p = 3 by omega) with e | e | e | e <;> subst e
  · exact sel_of (sel_nul w) (by decide +kernel)
  · exact sel_of (h 1 (by decide)) (by decide +kernel)
  · exact sel_of (h 2 (by decide)) (by decide +kernel)
  · exact sel_of (h 3 (by decide)) (by decide +kernel)
theorem st_65 {w : Int32} {P : Nat → Int32} (h : ∀ p, p < 4 → IsSel (SP 65 p) w (P p)) : ∃ Q, mF_StepMachineModel_stretch P (nI 65) = (mF_StepMachineModel_put Q (nI 4), Q) ∧ ∀ p, p < 4 → IsSel (QT 65 p) w (Q p) := by
  refine ⟨(upd P 2 0), rfl, fun p hp => ?_⟩
  rcases (show p = 0 ∨ p = 1 ∨ p = 2 ∨ p = 3 by omega) with e | e | e | e <;> subst e
  · exact sel_of (h 0 (by decide)) (by decide +kernel)
  · exact sel_of (h 1 (by decide)) (by decide +kernel)
  · exact sel_of (sel_nul w) (by decide +kernel)
  · exact sel_of (h 3 (by decide)) (by decide +kernel)
theorem st_66 {w : Int32} {P : Nat → Int32} (h : ∀ p, p < 4 → IsSel (SP 66 p) w (P p)) : ∃ Q, mF_StepMachineModel_stretch P (nI 66) = (mF_StepMachineModel_put Q (nI 5), Q) ∧ ∀ p, p < 4 → IsSel (QT 66 p) w (Q p) := by
  refine ⟨(upd P 2 0), rfl, fun p hp => ?_⟩
  rcases (show p = 0 ∨ p = 1 ∨ p = 2 ∨ p = 3 by omega) with e | e | e | e <;> subst e
  · exact sel_of (h 0 (by decide)) (by decide +kernel)
  · exact sel_of (h 1 (by decide)) (by decide +kernel)
  · exact sel_of (sel_nul w) (by decide +kernel)
  · exact sel_of (h 3 (by decide)) (by decide +kernel)
theorem st_67 {w : Int32} {P : Nat → Int32} (h : ∀ p, p < 4 → IsSel (SP 67 p) w (P p)) : ∃ Q, mF_StepMachineModel_stretch P (nI 67) = (mF_StepMachineModel_put Q (nI 24), Q) ∧ ∀ p, p < 4 → IsSel (QT 67 p) w (Q p) := by
  refine ⟨(upd P 1 (P 0)), rfl, fun p hp => ?_⟩
  rcases (show p = 0 ∨ p = 1 ∨ p = 2 ∨ p = 3 by omega) with e | e | e | e <;> subst e
  · exact sel_of (h 0 (by decide)) (by decide +kernel)
  · exact sel_of (h 0 (by decide)) (by decide +kernel)
  · exact sel_of (h 2 (by decide)) (by decide +kernel)
  · exact sel_of (h 3 (by decide)) (by decide +kernel)
theorem st_68 {w : Int32} {P : Nat → Int32} (h : ∀ p, p < 4 → IsSel (SP 68 p) w (P p)) : ∃ Q, mF_StepMachineModel_stretch P (nI 68) = (mF_StepMachineModel_put Q (nI 12), Q) ∧ ∀ p, p < 4 → IsSel (QT 68 p) w (Q p) := by
  refine ⟨(upd P 1 2), rfl, fun p hp => ?_⟩
  rcases (show p = 0 ∨ p = 1 ∨ p = 2 ∨ p = 3 by omega) with e | e | e | e <;> subst e
  · exact sel_of (h 0 (by decide)) (by decide +kernel)
  · exact sel_of (sel_cst w (c := 2) (by decide)) (by decide +kernel)
  · exact sel_of (h 2 (by decide)) (by decide +kernel)
  · exact sel_of (h 3 (by decide)) (by decide +kernel)
theorem st_69 {w : Int32} {P : Nat → Int32} (h : ∀ p, p < 4 → IsSel (SP 69 p) w (P p)) : ∃ Q, mF_StepMachineModel_stretch P (nI 69) = (mF_StepMachineModel_put Q (nI 3), Q) ∧ ∀ p, p < 4 → IsSel (QT 69 p) w (Q p) := by
  refine ⟨(upd (upd P 0 0) 3 0), rfl, fun p hp => ?_⟩
  rcases (show p = 0 ∨ p = 1 ∨ p = 2 ∨ p = 3 by omega) with e | e | e | e <;> subst e
  · exact sel_of (sel_nul w) (by decide +kernel)
  · exact sel_of (h 1 (by decide)) (by decide +kernel)
  · exact sel_of (h 2 (by decide)) (by decide +kernel)
  · exact sel_of (sel_nul w) (by decide +kernel)
theorem st_70 {w : Int32} {P : Nat → Int32} (h : ∀ p, p < 4 → IsSel (SP 70 p) w (P p)) : ∃ Q, mF_StepMachineModel_stretch P (nI 70) = (mF_StepMachineModel_put Q (nI 27), Q) ∧ ∀ p, p < 4 → IsSel (QT 70 p) w (Q p) := by
  refine ⟨(upd P 1 0), rfl, fun p hp => ?_⟩
  rcases (show p = 0 ∨ p = 1 ∨ p = 2 ∨ p = 3 by omega) with e | e | e | e <;> subst e
  · exact sel_of (h 0 (by decide)) (by decide +kernel)
  · exact sel_of (sel_nul w) (by decide +kernel)
  · exact sel_of (h 2 (by decide)) (by decide +kernel)
  · exact sel_of (h 3 (by decide)) (by decide +kernel)
theorem st_71 {w : Int32} {P : Nat → Int32} (h : ∀ p, p < 4 → IsSel (SP 71 p) w (P p)) : ∃ Q, mF_StepMachineModel_stretch P (nI 71) = (mF_StepMachineModel_put Q (nI 47), Q) ∧ ∀ p, p < 4 → IsSel (QT 71 p) w (Q p) := by
  refine ⟨P, rfl, fun p hp => ?_⟩
  rcases (show p = 0 ∨ p = 1 ∨ p = 2 ∨ p = 3 by omega) with e | e | e | e <;> subst e
  · exact sel_of (h 0 (by decide)) (by decide +kernel)
  · exact sel_of (h 1 (by decide)) (by decide +kernel)
  · exact sel_of (h 2 (by decide)) (by decide +kernel)
  · exact sel_of (h 3 (by decide)) (by decide +kernel)
theorem st_72 {w : Int32} {P : Nat → Int32} (h : ∀ p, p < 4 → IsSel (SP 72 p) w (P p)) : ∃ Q, mF_StepMachineModel_stretch P (nI 72) = (mF_StepMachineModel_put Q (nI 3), Q) ∧ ∀ p, p < 4 → IsSel (QT 72 p) w (Q p) := by
  refine ⟨(upd (upd P 0 1) 3 0), rfl, fun p hp => ?_⟩
  rcases (show p = 0 ∨ p = 1 ∨ p = 2 ∨ p = 3 by omega) with e | e | e | e <;> subst e
  · exact sel_of (sel_cst w (c := 1) (by decide)) (by decide +kernel)
  · exact sel_of (h 1 (by decide)) (by decide +kernel)
  · exact sel_of (h 2 (by decide)) (by decide +kernel)
  · exact sel_of (sel_nul w) (by decide +kernel)
theorem st_73 {w : Int32} {P : Nat → Int32} (h : ∀ p, p < 4 → IsSel (SP 73 p) w (P p)) : ∃ Q, mF_StepMachineModel_stretch P (nI 73) = (mF_StepMachineModel_put Q (nI 27), Q) ∧ ∀ p, p < 4 → IsSel (QT 73 p) w (Q p) := by
  refine ⟨(upd P 1 (P 0)), rfl, fun p hp => ?_⟩
  rcases (show p = 0 ∨ p = 1 ∨ p = 2 ∨ p = 3 by omega) with e | e | e | e <;> subst e
  · exact sel_of (h 0 (by decide)) (by decide +kernel)
  · exact sel_of (h 0 (by decide)) (by decide +kernel)
  · exact sel_of (h 2 (by decide)) (by decide +kernel)
  · exact sel_of (h 3 (by decide)) (by decide +kernel)
theorem st_74 {w : Int32} {P : Nat → Int32} (h : ∀ p, p < 4 → IsSel (SP 74 p) w (P p)) : ∃ Q, mF_StepMachineModel_stretch P (nI 74) = (mF_StepMachineModel_put Q (nI 17), Q) ∧ ∀ p, p < 4 → IsSel (QT 74 p) w (Q p) := by
  refine ⟨(upd P 1 2), rfl, fun p hp => ?_⟩
  rcases (show p = 0 ∨ p = 1 ∨ p = 2 ∨ p = 3 by omega) with e | e | e | e <;> subst e
  · exact sel_of (h 0 (by decide)) (by decide +kernel)
  · exact sel_of (sel_cst w (c := 2) (by decide)) (by decide +kernel)
  · exact sel_of (h 2 (by decide)) (by decide +kernel)
  · exact sel_of (h 3 (by decide)) (by decide +kernel)
