theorem ite_q {α : Type} {P : α → Prop} {c : Prop} [Decidable c] {a b : α} (ha : P a) (hb : P b) : P (if c then a else b) := by
  by_cases h : c
  · rw [if_pos h]; exact ha
  · rw [if_neg h]; exact hb
theorem ite_h {α : Type} {P : α → Prop} {c : Prop} [Decidable c] {a b : α} (ha : c → P a) (hb : ¬ c → P b) : P (if c then a else b) := by
  by_cases h : c
  · rw [if_pos h]; exact ha h
  · rw [if_neg h]; exact hb h
theorem sr_all {k : Nat} {w : Int32} {P : Nat → Int32} (h1 : 48 ≤ k) (h2 : k < 75) (h : FT k w P) : ∃ l Q R, mF_StepMachineModel_stretch P (nI k) = (l, Q) ∧ mF_StepMachineModel_find Q l = (nI (KN k), R) ∧ ∀ p, p < 4 → IsSel (CT k (KN k) p) w (R p) := by
  rcases (show k = 48 ∨ k = 49 ∨ k = 50 ∨ k = 51 ∨ k = 52 ∨ k = 53 ∨ k = 54 ∨ k = 55 ∨ k = 56 ∨ k = 57 ∨ k = 58 ∨ k = 59 ∨ k = 60 ∨ k = 61 ∨ k = 62 ∨ k = 63 ∨ k = 64 ∨ k = 65 ∨ k = 66 ∨ k = 67 ∨ k = 68 ∨ k = 69 ∨ k = 70 ∨ k = 71 ∨ k = 72 ∨ k = 73 ∨ k = 74 by omega) with rfl | rfl | rfl | rfl | rfl | rfl | rfl | rfl | rfl | rfl | rfl | rfl | rfl | rfl | rfl | rfl | rfl | rfl | rfl | rfl | rfl | rfl | rfl | rfl | rfl | rfl | rfl
  · exact sr_of (K := 18) (by decide) (by decide) (st_48 h.2.1)
  · exact sr_of (K := 12) (by decide) (by decide) (st_49 h.2.1)
  · exact sr_of (K := 17) (by decide) (by decide) (st_50 h.2.1)
  · exact sr_of (K := 18) (by decide) (by decide) (st_51 h.2.1)
  · exact sr_of (K := 18) (by decide) (by decide) (st_52 h.2.1)
  · exact sr_of (K := 2) (by decide) (by decide) (st_53 h.2.1)
  · exact sr_of (K := 18) (by decide) (by decide) (st_54 h.2.1)
  · exact sr_of (K := 18) (by decide) (by decide) (st_55 h.2.1)
  · exact sr_of (K := 0) (by decide) (by decide) (st_56 h.2.1)
  · exact sr_of (K := 25) (by decide) (by decide) (st_57 h.2.1)
  · exact sr_of (K := 26) (by decide) (by decide) (st_58 h.2.1)
  · exact sr_of (K := 23) (by decide) (by decide) (st_59 h.2.1)
  · exact sr_of (K := 28) (by decide) (by decide) (st_60 h.2.1)
  · exact sr_of (K := 32) (by decide) (by decide) (st_61 h.2.1)
  · exact sr_of (K := 35) (by decide) (by decide) (st_62 h.2.1)
  · exact sr_of (K := 36) (by decide) (by decide) (st_63 h.2.1)
  · exact sr_of (K := 2) (by decide) (by decide) (st_64 h.2.1)
  · exact sr_of (K := 4) (by decide) (by decide) (st_65 h.2.1)
  · exact sr_of (K := 5) (by decide) (by decide) (st_66 h.2.1)
  · exact sr_of (K := 24) (by decide) (by decide) (st_67 h.2.1)
  · exact sr_of (K := 12) (by decide) (by decide) (st_68 h.2.1)
  · exact sr_of (K := 3) (by decide) (by decide) (st_69 h.2.1)
  · exact sr_of (K := 27) (by decide) (by decide) (st_70 h.2.1)
  · exact sr_of (K := 47) (by decide) (by decide) (st_71 h.2.1)
  · exact sr_of (K := 3) (by decide) (by decide) (st_72 h.2.1)
  · exact sr_of (K := 27) (by decide) (by decide) (st_73 h.2.1)
  · exact sr_of (K := 17) (by decide) (by decide) (st_74 h.2.1)
theorem KN_lt (k : Nat) : KN k < 48 := by
  have h : ∀ a ∈ ([18, 12, 17, 18, 18, 2, 18, 18, 0, 25, 26, 23, 28, 32, 35, 36, 2, 4, 5, 24, 12, 3, 27, 47, 3, 27, 17] : List Nat), a < 48 := by decide
  rw [KN, List.getD_eq_getElem?_getD]
  cases e : ([18, 12, 17, 18, 18, 2, 18, 18, 0, 25, 26, 23, 28, 32, 35, 36, 2, 4, 5, 24, 12, 3, 27, 47, 3, 27, 17] : List Nat)[k - 48]? with
  | none => decide
  | some v => exact h v (List.mem_of_getElem? e)
theorem e_m1 : (-1 : Int32).toInt = -1 := by decide
theorem nI_nm1 {k : Nat} (h : k < 2147483648) : ¬ nI k = -1 := fun e => by
  have a := congrArg Int32.toInt e
  rw [nI_toInt h, e_m1] at a
  omega
theorem nI_lt48 {k : Nat} (h : k < 48) : nI k < 48 := Int32.lt_iff_toInt_lt.mpr (by rw [nI_toInt (by omega), e_48]; omega)
theorem fp_gen {w : Int32} (part : Nat → Int32) (h1 : ¬ (mF_StepMachineModel_find part w).1 = -1) (h2 : ¬ (mF_StepMachineModel_find part w).1 < 48) : ∀ p, p < 3 → 0 ≤ ((mF_StepMachineModel_find (mF_StepMachineModel_stretch (mF_StepMachineModel_find part w).2 (mF_StepMachineModel_find part w).1).2 (mF_StepMachineModel_stretch (mF_StepMachineModel_find part w).2 (mF_StepMachineModel_find part w).1).1).2 p).toInt ∧ ((mF_StepMachineModel_find (mF_StepMachineModel_stretch (mF_StepMachineModel_find part w).2 (mF_StepMachineModel_find part w).1).2 (mF_StepMachineModel_stretch (mF_StepMachineModel_find part w).2 (mF_StepMachineModel_find part w).1).1).2 p).toInt < 32 := by
  apply find_reg
  by_cases hl : mF_StepMachineModel_isLong w = 0
  · rcases find_short hl part with ⟨k, P, a, b, e, f⟩ | ⟨e, _⟩
    · obtain ⟨l, Q, R, e1, e2, _⟩ := sr_all a b f
      rw [e]
      show ¬ (mF_StepMachineModel_find (mF_StepMachineModel_stretch P (nI k)).2 (mF_StepMachineModel_stretch P (nI k)).1).1 = -1
      rw [e1]
      show ¬ (mF_StepMachineModel_find Q l).1 = -1
      rw [e2]
      exact nI_nm1 (by have := KN_lt k; omega)
    · exact absurd e h1
  · rcases find_long hl part with ⟨k, P, a, e, f⟩ | ⟨e, _⟩
    · exact absurd (by rw [e]; exact nI_lt48 a) h2
    · exact absurd e h1
