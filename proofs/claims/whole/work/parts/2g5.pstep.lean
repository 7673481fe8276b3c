def PJ (pc n on : Int32) (vm : Nat → Int32) (P : (Nat → Int32) × (Nat → Int32) × Int32 × Int32 × Int32 × Int32 × (Nat → Int32) × Int32 × Int32) : Prop := ¬ cF_Core_hasEnded P.2.2.2.1 = 0 ∨ P.2.2.1 = pc + n ∨ ¬ cF_Core_beginsUnit P.2.2.1 on vm = 0
theorem pj_jump (pc n on t va put tak : Int32) (vm reg c vo : Nat → Int32) : PJ pc n on vm (reg, c, (cF_Core_jump 0 0 on vm t).1, (cF_Core_jump 0 0 on vm t).2.1, (cF_Core_jump 0 0 on vm t).2.2, va, vo, put, tak) := by
  unfold PJ
  show ¬ cF_Core_hasEnded (cF_Core_jump 0 0 on vm t).2.1 = 0 ∨ (cF_Core_jump 0 0 on vm t).1 = pc + n ∨ ¬ cF_Core_beginsUnit (cF_Core_jump 0 0 on vm t).1 on vm = 0
  rw [cF_Core_jump]
  by_cases h1 : on = 0
  · rw [if_pos h1]
    refine Or.inr (Or.inr ?_)
    rw [cF_Core_beginsUnit, if_pos h1]
    decide
  · rw [if_neg h1]
    by_cases h2 : cF_Guard_isMarked vm t = 0
    · rw [if_pos h2]
      exact Or.inl (show ¬ cF_Core_hasEnded 5 = 0 by decide)
    · rw [if_neg h2]
      refine Or.inr (Or.inr ?_)
      rw [cF_Core_beginsUnit, if_neg h1, if_neg h2]
      decide
theorem pj_0 (pc va sp n on giv tak put d a b i : Int32) (reg c vm vi vo : Nat → Int32) : PJ pc n on vm (cF_Core_perform pc 0 0 va sp reg n 0 d a b i on vm c giv tak put vi vo) := Or.inr (Or.inl rfl)
theorem pj_1 (pc va sp n on giv tak put d a b i : Int32) (reg c vm vi vo : Nat → Int32) : PJ pc n on vm (cF_Core_perform pc 0 0 va sp reg n 1 d a b i on vm c giv tak put vi vo) := Or.inr (Or.inl rfl)
theorem pj_2 (pc va sp n on giv tak put d a b i : Int32) (reg c vm vi vo : Nat → Int32) : PJ pc n on vm (cF_Core_perform pc 0 0 va sp reg n 2 d a b i on vm c giv tak put vi vo) := pj_jump _ _ _ _ _ _ _ _ _ _ _
theorem pj_3 (pc va sp n on giv tak put d a b i : Int32) (reg c vm vi vo : Nat → Int32) : PJ pc n on vm (cF_Core_perform pc 0 0 va sp reg n 3 d a b i on vm c giv tak put vi vo) := pj_jump _ _ _ _ _ _ _ _ _ _ _
theorem pj_4 (pc va sp n on giv tak put d a b i : Int32) (reg c vm vi vo : Nat → Int32) : PJ pc n on vm (cF_Core_perform pc 0 0 va sp reg n 4 d a b i on vm c giv tak put vi vo) := by
  show PJ pc n on vm (cF_Core_perform_9 va reg c tak put vo (cF_Core_branch pc 0 0 reg n 4 a b i on vm))
  rw [cF_Core_branch]
  by_cases h : cF_Arithmetic_holds 4 (cF_Core_register reg a) (cF_Core_register reg b) = 0
  · rw [if_pos h]
    exact Or.inr (Or.inl rfl)
  · rw [if_neg h]
    exact pj_jump _ _ _ _ _ _ _ _ _ _ _
theorem pj_5 (pc va sp n on giv tak put d a b i : Int32) (reg c vm vi vo : Nat → Int32) : PJ pc n on vm (cF_Core_perform pc 0 0 va sp reg n 5 d a b i on vm c giv tak put vi vo) := by
  show PJ pc n on vm (cF_Core_perform_9 va reg c tak put vo (cF_Core_branch pc 0 0 reg n 5 a b i on vm))
  rw [cF_Core_branch]
  by_cases h : cF_Arithmetic_holds 5 (cF_Core_register reg a) (cF_Core_register reg b) = 0
  · rw [if_pos h]
    exact Or.inr (Or.inl rfl)
  · rw [if_neg h]
    exact pj_jump _ _ _ _ _ _ _ _ _ _ _
theorem pj_6 (pc va sp n on giv tak put d a b i : Int32) (reg c vm vi vo : Nat → Int32) : PJ pc n on vm (cF_Core_perform pc 0 0 va sp reg n 6 d a b i on vm c giv tak put vi vo) := by
  show PJ pc n on vm (cF_Core_perform_9 va reg c tak put vo (cF_Core_branch pc 0 0 reg n 6 a b i on vm))
  rw [cF_Core_branch]
  by_cases h : cF_Arithmetic_holds 6 (cF_Core_register reg a) (cF_Core_register reg b) = 0
  · rw [if_pos h]
    exact Or.inr (Or.inl rfl)
  · rw [if_neg h]
    exact pj_jump _ _ _ _ _ _ _ _ _ _ _
theorem pj_7 (pc va sp n on giv tak put d a b i : Int32) (reg c vm vi vo : Nat → Int32) : PJ pc n on vm (cF_Core_perform pc 0 0 va sp reg n 7 d a b i on vm c giv tak put vi vo) := by
  show PJ pc n on vm (cF_Core_perform_9 va reg c tak put vo (cF_Core_branch pc 0 0 reg n 7 a b i on vm))
  rw [cF_Core_branch]
  by_cases h : cF_Arithmetic_holds 7 (cF_Core_register reg a) (cF_Core_register reg b) = 0
  · rw [if_pos h]
    exact Or.inr (Or.inl rfl)
  · rw [if_neg h]
    exact pj_jump _ _ _ _ _ _ _ _ _ _ _
theorem pj_8 (pc va sp n on giv tak put d a b i : Int32) (reg c vm vi vo : Nat → Int32) : PJ pc n on vm (cF_Core_perform pc 0 0 va sp reg n 8 d a b i on vm c giv tak put vi vo) := by
  show PJ pc n on vm (cF_Core_perform_9 va reg c tak put vo (cF_Core_branch pc 0 0 reg n 8 a b i on vm))
  rw [cF_Core_branch]
  by_cases h : cF_Arithmetic_holds 8 (cF_Core_register reg a) (cF_Core_register reg b) = 0
  · rw [if_pos h]
    exact Or.inr (Or.inl rfl)
  · rw [if_neg h]
    exact pj_jump _ _ _ _ _ _ _ _ _ _ _
theorem pj_9 (pc va sp n on giv tak put d a b i : Int32) (reg c vm vi vo : Nat → Int32) : PJ pc n on vm (cF_Core_perform pc 0 0 va sp reg n 9 d a b i on vm c giv tak put vi vo) := by
  show PJ pc n on vm (cF_Core_perform_9 va reg c tak put vo (cF_Core_branch pc 0 0 reg n 9 a b i on vm))
  rw [cF_Core_branch]
  by_cases h : cF_Arithmetic_holds 9 (cF_Core_register reg a) (cF_Core_register reg b) = 0
  · rw [if_pos h]
    exact Or.inr (Or.inl rfl)
  · rw [if_neg h]
    exact pj_jump _ _ _ _ _ _ _ _ _ _ _
theorem pj_10 (pc va sp n on giv tak put d a b i : Int32) (reg c vm vi vo : Nat → Int32) : PJ pc n on vm (cF_Core_perform pc 0 0 va sp reg n 10 d a b i on vm c giv tak put vi vo) := Or.inr (Or.inl rfl)
theorem pj_11 (pc va sp n on giv tak put d a b i : Int32) (reg c vm vi vo : Nat → Int32) : PJ pc n on vm (cF_Core_perform pc 0 0 va sp reg n 11 d a b i on vm c giv tak put vi vo) := Or.inr (Or.inl rfl)
theorem pj_12 (pc va sp n on giv tak put d a b i : Int32) (reg c vm vi vo : Nat → Int32) : PJ pc n on vm (cF_Core_perform pc 0 0 va sp reg n 12 d a b i on vm c giv tak put vi vo) := Or.inr (Or.inl rfl)
theorem pj_13 (pc va sp n on giv tak put d a b i : Int32) (reg c vm vi vo : Nat → Int32) : PJ pc n on vm (cF_Core_perform pc 0 0 va sp reg n 13 d a b i on vm c giv tak put vi vo) := Or.inr (Or.inl rfl)
theorem pj_14 (pc va sp n on giv tak put d a b i : Int32) (reg c vm vi vo : Nat → Int32) : PJ pc n on vm (cF_Core_perform pc 0 0 va sp reg n 14 d a b i on vm c giv tak put vi vo) := Or.inr (Or.inl rfl)
theorem pj_15 (pc va sp n on giv tak put d a b i : Int32) (reg c vm vi vo : Nat → Int32) : PJ pc n on vm (cF_Core_perform pc 0 0 va sp reg n 15 d a b i on vm c giv tak put vi vo) := Or.inr (Or.inl rfl)
theorem pj_16 (pc va sp n on giv tak put d a b i : Int32) (reg c vm vi vo : Nat → Int32) : PJ pc n on vm (cF_Core_perform pc 0 0 va sp reg n 16 d a b i on vm c giv tak put vi vo) := Or.inr (Or.inl rfl)
theorem pj_17 (pc va sp n on giv tak put d a b i : Int32) (reg c vm vi vo : Nat → Int32) : PJ pc n on vm (cF_Core_perform pc 0 0 va sp reg n 17 d a b i on vm c giv tak put vi vo) := Or.inr (Or.inl rfl)
theorem pj_18 (pc va sp n on giv tak put d a b i : Int32) (reg c vm vi vo : Nat → Int32) : PJ pc n on vm (cF_Core_perform pc 0 0 va sp reg n 18 d a b i on vm c giv tak put vi vo) := Or.inr (Or.inl rfl)
theorem pj_19 (pc va sp n on giv tak put d a b i : Int32) (reg c vm vi vo : Nat → Int32) : PJ pc n on vm (cF_Core_perform pc 0 0 va sp reg n 19 d a b i on vm c giv tak put vi vo) := Or.inr (Or.inl rfl)
theorem pj_20 (pc va sp n on giv tak put d a b i : Int32) (reg c vm vi vo : Nat → Int32) : PJ pc n on vm (cF_Core_perform pc 0 0 va sp reg n 20 d a b i on vm c giv tak put vi vo) := Or.inr (Or.inl rfl)
theorem pj_21 (pc va sp n on giv tak put d a b i : Int32) (reg c vm vi vo : Nat → Int32) : PJ pc n on vm (cF_Core_perform pc 0 0 va sp reg n 21 d a b i on vm c giv tak put vi vo) := Or.inr (Or.inl rfl)
theorem pj_22 (pc va sp n on giv tak put d a b i : Int32) (reg c vm vi vo : Nat → Int32) : PJ pc n on vm (cF_Core_perform pc 0 0 va sp reg n 22 d a b i on vm c giv tak put vi vo) := Or.inr (Or.inl rfl)
theorem pj_23 (pc va sp n on giv tak put d a b i : Int32) (reg c vm vi vo : Nat → Int32) : PJ pc n on vm (cF_Core_perform pc 0 0 va sp reg n 23 d a b i on vm c giv tak put vi vo) := Or.inr (Or.inl rfl)
theorem pj_24 (pc va sp n on giv tak put d a b i : Int32) (reg c vm vi vo : Nat → Int32) : PJ pc n on vm (cF_Core_perform pc 0 0 va sp reg n 24 d a b i on vm c giv tak put vi vo) := Or.inr (Or.inl rfl)
theorem pj_25 (pc va sp n on giv tak put d a b i : Int32) (reg c vm vi vo : Nat → Int32) : PJ pc n on vm (cF_Core_perform pc 0 0 va sp reg n 25 d a b i on vm c giv tak put vi vo) := Or.inr (Or.inl rfl)
theorem pj_26 (pc va sp n on giv tak put d a b i : Int32) (reg c vm vi vo : Nat → Int32) : PJ pc n on vm (cF_Core_perform pc 0 0 va sp reg n 26 d a b i on vm c giv tak put vi vo) := Or.inr (Or.inl rfl)
theorem pj_27 (pc va sp n on giv tak put d a b i : Int32) (reg c vm vi vo : Nat → Int32) : PJ pc n on vm (cF_Core_perform pc 0 0 va sp reg n 27 d a b i on vm c giv tak put vi vo) := Or.inr (Or.inl rfl)
theorem pj_28 (pc va sp n on giv tak put d a b i : Int32) (reg c vm vi vo : Nat → Int32) : PJ pc n on vm (cF_Core_perform pc 0 0 va sp reg n 28 d a b i on vm c giv tak put vi vo) := Or.inr (Or.inl rfl)
theorem pj_29 (pc va sp n on giv tak put d a b i : Int32) (reg c vm vi vo : Nat → Int32) : PJ pc n on vm (cF_Core_perform pc 0 0 va sp reg n 29 d a b i on vm c giv tak put vi vo) := Or.inr (Or.inl rfl)
theorem pj_30 (pc va sp n on giv tak put d a b i : Int32) (reg c vm vi vo : Nat → Int32) : PJ pc n on vm (cF_Core_perform pc 0 0 va sp reg n 30 d a b i on vm c giv tak put vi vo) := Or.inr (Or.inl rfl)
theorem pj_31 (pc va sp n on giv tak put d a b i : Int32) (reg c vm vi vo : Nat → Int32) : PJ pc n on vm (cF_Core_perform pc 0 0 va sp reg n 31 d a b i on vm c giv tak put vi vo) := Or.inr (Or.inl rfl)
theorem pj_32 (pc va sp n on giv tak put d a b i : Int32) (reg c vm vi vo : Nat → Int32) : PJ pc n on vm (cF_Core_perform pc 0 0 va sp reg n 32 d a b i on vm c giv tak put vi vo) := Or.inr (Or.inl rfl)
theorem pj_33 (pc va sp n on giv tak put d a b i : Int32) (reg c vm vi vo : Nat → Int32) : PJ pc n on vm (cF_Core_perform pc 0 0 va sp reg n 33 d a b i on vm c giv tak put vi vo) := Or.inr (Or.inl rfl)
theorem pj_34 (pc va sp n on giv tak put d a b i : Int32) (reg c vm vi vo : Nat → Int32) : PJ pc n on vm (cF_Core_perform pc 0 0 va sp reg n 34 d a b i on vm c giv tak put vi vo) := Or.inr (Or.inl rfl)
theorem pj_35 (pc va sp n on giv tak put d a b i : Int32) (reg c vm vi vo : Nat → Int32) : PJ pc n on vm (cF_Core_perform pc 0 0 va sp reg n 35 d a b i on vm c giv tak put vi vo) := Or.inr (Or.inl rfl)
theorem pj_36 (pc va sp n on giv tak put d a b i : Int32) (reg c vm vi vo : Nat → Int32) : PJ pc n on vm (cF_Core_perform pc 0 0 va sp reg n 36 d a b i on vm c giv tak put vi vo) := Or.inr (Or.inl rfl)
theorem pj_37 (pc va sp n on giv tak put d a b i : Int32) (reg c vm vi vo : Nat → Int32) : PJ pc n on vm (cF_Core_perform pc 0 0 va sp reg n 37 d a b i on vm c giv tak put vi vo) := Or.inr (Or.inl rfl)
theorem pj_38 (pc va sp n on giv tak put d a b i : Int32) (reg c vm vi vo : Nat → Int32) : PJ pc n on vm (cF_Core_perform pc 0 0 va sp reg n 38 d a b i on vm c giv tak put vi vo) := Or.inr (Or.inl rfl)
theorem pj_39 (pc va sp n on giv tak put d a b i : Int32) (reg c vm vi vo : Nat → Int32) : PJ pc n on vm (cF_Core_perform pc 0 0 va sp reg n 39 d a b i on vm c giv tak put vi vo) := Or.inr (Or.inl rfl)
theorem pj_40 (pc va sp n on giv tak put d a b i : Int32) (reg c vm vi vo : Nat → Int32) : PJ pc n on vm (cF_Core_perform pc 0 0 va sp reg n 40 d a b i on vm c giv tak put vi vo) := Or.inr (Or.inl rfl)
theorem pj_41 (pc va sp n on giv tak put d a b i : Int32) (reg c vm vi vo : Nat → Int32) : PJ pc n on vm (cF_Core_perform pc 0 0 va sp reg n 41 d a b i on vm c giv tak put vi vo) := Or.inr (Or.inl rfl)
theorem pj_42 (pc va sp n on giv tak put d a b i : Int32) (reg c vm vi vo : Nat → Int32) : PJ pc n on vm (cF_Core_perform pc 0 0 va sp reg n 42 d a b i on vm c giv tak put vi vo) := Or.inr (Or.inl rfl)
theorem pj_43 (pc va sp n on giv tak put d a b i : Int32) (reg c vm vi vo : Nat → Int32) : PJ pc n on vm (cF_Core_perform pc 0 0 va sp reg n 43 d a b i on vm c giv tak put vi vo) := Or.inr (Or.inl rfl)
theorem pj_44 (pc va sp n on giv tak put d a b i : Int32) (reg c vm vi vo : Nat → Int32) : PJ pc n on vm (cF_Core_perform pc 0 0 va sp reg n 44 d a b i on vm c giv tak put vi vo) := Or.inr (Or.inl rfl)
theorem pj_45 (pc va sp n on giv tak put d a b i : Int32) (reg c vm vi vo : Nat → Int32) : PJ pc n on vm (cF_Core_perform pc 0 0 va sp reg n 45 d a b i on vm c giv tak put vi vo) := Or.inr (Or.inl rfl)
theorem pj_46 (pc va sp n on giv tak put d a b i : Int32) (reg c vm vi vo : Nat → Int32) : PJ pc n on vm (cF_Core_perform pc 0 0 va sp reg n 46 d a b i on vm c giv tak put vi vo) := by
  have key : (fun q : (Nat → Int32) × Int32 × Int32 × Int32 × Int32 × (Nat → Int32) × Int32 × Int32 => ¬ cF_Core_hasEnded q.2.2.1 = 0 ∨ q.2.1 = pc + n) (cF_Core_serve pc 0 0 va sp reg n giv tak put vi vo) := by
    rw [cF_Core_serve]
    repeat' (with_reducible refine ite_q (P := (fun q : (Nat → Int32) × Int32 × Int32 × Int32 × Int32 × (Nat → Int32) × Int32 × Int32 => ¬ cF_Core_hasEnded q.2.2.1 = 0 ∨ q.2.1 = pc + n)) ?_ ?_)
    all_goals first | exact Or.inr rfl | exact Or.inl (show ¬ cF_Core_hasEnded 7 = 0 by decide) | exact Or.inl (show ¬ cF_Core_hasEnded 8 = 0 by decide)
  rcases key with h | h
  · exact Or.inl h
  · exact Or.inr (Or.inl h)
theorem pj_47 (pc va sp n on giv tak put d a b i : Int32) (reg c vm vi vo : Nat → Int32) : PJ pc n on vm (cF_Core_perform pc 0 0 va sp reg n 47 d a b i on vm c giv tak put vi vo) := Or.inl (show ¬ cF_Core_hasEnded 6 = 0 by decide)
theorem pj_all (pc va sp n on giv tak put d a b i : Int32) (reg c vm vi vo : Nat → Int32) {k : Int32} (hk0 : 0 ≤ k.toInt) (hk1 : k.toInt < 48) : PJ pc n on vm (cF_Core_perform pc 0 0 va sp reg n k d a b i on vm c giv tak put vi vo) := by
  rcases kdc hk0 hk1 with rfl | rfl | rfl | rfl | rfl | rfl | rfl | rfl | rfl | rfl | rfl | rfl | rfl | rfl | rfl | rfl | rfl | rfl | rfl | rfl | rfl | rfl | rfl | rfl | rfl | rfl | rfl | rfl | rfl | rfl | rfl | rfl | rfl | rfl | rfl | rfl | rfl | rfl | rfl | rfl | rfl | rfl | rfl | rfl | rfl | rfl | rfl | rfl
  · exact pj_0 _ _ _ _ _ _ _ _ _ _ _ _ _ _ _ _ _
  · exact pj_1 _ _ _ _ _ _ _ _ _ _ _ _ _ _ _ _ _
  · exact pj_2 _ _ _ _ _ _ _ _ _ _ _ _ _ _ _ _ _
  · exact pj_3 _ _ _ _ _ _ _ _ _ _ _ _ _ _ _ _ _
  · exact pj_4 _ _ _ _ _ _ _ _ _ _ _ _ _ _ _ _ _
  · exact pj_5 _ _ _ _ _ _ _ _ _ _ _ _ _ _ _ _ _
  · exact pj_6 _ _ _ _ _ _ _ _ _ _ _ _ _ _ _ _ _
  · exact pj_7 _ _ _ _ _ _ _ _ _ _ _ _ _ _ _ _ _
  · exact pj_8 _ _ _ _ _ _ _ _ _ _ _ _ _ _ _ _ _
  · exact pj_9 _ _ _ _ _ _ _ _ _ _ _ _ _ _ _ _ _
  · exact pj_10 _ _ _ _ _ _ _ _ _ _ _ _ _ _ _ _ _
  · exact pj_11 _ _ _ _ _ _ _ _ _ _ _ _ _ _ _ _ _
  · exact pj_12 _ _ _ _ _ _ _ _ _ _ _ _ _ _ _ _ _
  · exact pj_13 _ _ _ _ _ _ _ _ _ _ _ _ _ _ _ _ _
  · exact pj_14 _ _ _ _ _ _ _ _ _ _ _ _ _ _ _ _ _
  · exact pj_15 _ _ _ _ _ _ _ _ _ _ _ _ _ _ _ _ _
  · exact pj_16 _ _ _ _ _ _ _ _ _ _ _ _ _ _ _ _ _
  · exact pj_17 _ _ _ _ _ _ _ _ _ _ _ _ _ _ _ _ _
  · exact pj_18 _ _ _ _ _ _ _ _ _ _ _ _ _ _ _ _ _
  · exact pj_19 _ _ _ _ _ _ _ _ _ _ _ _ _ _ _ _ _
  · exact pj_20 _ _ _ _ _ _ _ _ _ _ _ _ _ _ _ _ _
  · exact pj_21 _ _ _ _ _ _ _ _ _ _ _ _ _ _ _ _ _
  · exact pj_22 _ _ _ _ _ _ _ _ _ _ _ _ _ _ _ _ _
  · exact pj_23 _ _ _ _ _ _ _ _ _ _ _ _ _ _ _ _ _
  · exact pj_24 _ _ _ _ _ _ _ _ _ _ _ _ _ _ _ _ _
  · exact pj_25 _ _ _ _ _ _ _ _ _ _ _ _ _ _ _ _ _
  · exact pj_26 _ _ _ _ _ _ _ _ _ _ _ _ _ _ _ _ _
  · exact pj_27 _ _ _ _ _ _ _ _ _ _ _ _ _ _ _ _ _
  · exact pj_28 _ _ _ _ _ _ _ _ _ _ _ _ _ _ _ _ _
  · exact pj_29 _ _ _ _ _ _ _ _ _ _ _ _ _ _ _ _ _
  · exact pj_30 _ _ _ _ _ _ _ _ _ _ _ _ _ _ _ _ _
  · exact pj_31 _ _ _ _ _ _ _ _ _ _ _ _ _ _ _ _ _
  · exact pj_32 _ _ _ _ _ _ _ _ _ _ _ _ _ _ _ _ _
  · exact pj_33 _ _ _ _ _ _ _ _ _ _ _ _ _ _ _ _ _
  · exact pj_34 _ _ _ _ _ _ _ _ _ _ _ _ _ _ _ _ _
  · exact pj_35 _ _ _ _ _ _ _ _ _ _ _ _ _ _ _ _ _
  · exact pj_36 _ _ _ _ _ _ _ _ _ _ _ _ _ _ _ _ _
  · exact pj_37 _ _ _ _ _ _ _ _ _ _ _ _ _ _ _ _ _
  · exact pj_38 _ _ _ _ _ _ _ _ _ _ _ _ _ _ _ _ _
  · exact pj_39 _ _ _ _ _ _ _ _ _ _ _ _ _ _ _ _ _
  · exact pj_40 _ _ _ _ _ _ _ _ _ _ _ _ _ _ _ _ _
  · exact pj_41 _ _ _ _ _ _ _ _ _ _ _ _ _ _ _ _ _
  · exact pj_42 _ _ _ _ _ _ _ _ _ _ _ _ _ _ _ _ _
  · exact pj_43 _ _ _ _ _ _ _ _ _ _ _ _ _ _ _ _ _
  · exact pj_44 _ _ _ _ _ _ _ _ _ _ _ _ _ _ _ _ _
  · exact pj_45 _ _ _ _ _ _ _ _ _ _ _ _ _ _ _ _ _
  · exact pj_46 _ _ _ _ _ _ _ _ _ _ _ _ _ _ _ _ _
  · exact pj_47 _ _ _ _ _ _ _ _ _ _ _ _ _ _ _ _ _
/-- the trail: what is kept can be taken back, on both sides alike -/
def Hs (kd : Nat → Nat → Int32) (kp : Nat → Int32) : Nat → Nat → (Nat → Int32) → (Nat → Int32) → (Nat → Int32) → Prop
  | 0, _, _, _, _ => True
  | n + 1, x, r, c, m => ∃ r' c' m' : Nat → Int32, (∀ i, i < 8 → kd ((x + 99) % 100) i = kp (13 * ((x + 99) % 100) + i)) ∧ kd ((x + 99) % 100) 0 &&& 1 = 0 ∧ 0 ≤ (kd ((x + 99) % 100) 7).toInt ∧ (0 ≤ (kd ((x + 99) % 100) 6).toInt ∧ (kd ((x + 99) % 100) 6).toInt ≤ 2000) ∧ r' 0 = 0 ∧ Rm c' m' ∧ UndC r c (kd ((x + 99) % 100) 8) (kd ((x + 99) % 100) 9) (kd ((x + 99) % 100) 10) (kd ((x + 99) % 100) 11) r' c' ∧ UndM kp ((x + 99) % 100) r m r' m' ∧ Hs kd kp n ((x + 99) % 100) r' c' m'
theorem Hs_mono (kd : Nat → Nat → Int32) (kp : Nat → Int32) : ∀ (n k x : Nat) (r c m : Nat → Int32), k ≤ n → Hs kd kp n x r c m → Hs kd kp k x r c m := by
  intro n
  induction n with
  | zero => intro k x r c m hk h; rw [show k = 0 by omega]; exact trivial
  | succ n ih =>
    intro k x r c m hk h
    match k with
    | 0 => exact trivial
    | k + 1 =>
      obtain ⟨r', c', m', h1, h2, h3, h4, h5, h6, h7, h8, h9⟩ := h
      exact ⟨r', c', m', h1, h2, h3, h4, h5, h6, h7, h8, ih k _ _ _ _ (by omega) h9⟩
theorem l153_cg {kp kp' : Nat → Int32} {kn : Int32} {y : Nat} (hy : y < 100) (hL : mF_StepMachineModel_latest kn = nI (13 * y)) (h : ∀ i, i < 13 → kp' (13 * y + i) = kp (13 * y + i)) : ∀ (n : Nat) (k : Int32) (m : Nat → Int32), mF_StepMachineModel_back_L153 kp' kn n k m = mF_StepMachineModel_back_L153 kp kn n k m := by
  intro n
  induction n with
  | zero => intro k m; rfl
  | succ n ih =>
    intro k m
    rw [mF_StepMachineModel_back_L153, mF_StepMachineModel_back_L153, show (mF_StepMachineModel_latest kn + 10).toNatClampNeg = 13 * y + 10 from lx (i := 10) hL (by omega), show (mF_StepMachineModel_latest kn + 11).toNatClampNeg = 13 * y + 11 from lx (i := 11) hL (by omega), show (mF_StepMachineModel_latest kn + 12).toNatClampNeg = 13 * y + 12 from lx (i := 12) hL (by omega), h 10 (by decide), h 11 (by decide), h 12 (by decide), ih]
theorem UndM_cg {kp kp' : Nat → Int32} {y : Nat} (hy : y < 100) (h : ∀ i, i < 13 → kp' (13 * y + i) = kp (13 * y + i)) {r m r' m' : Nat → Int32} (u : UndM kp y r m r' m') : UndM kp' y r m r' m' := by
  obtain ⟨u1, u2, u3, u4⟩ := u
  unfold UndM
  rw [h 8 (by decide), h 9 (by decide), h 10 (by decide), h 11 (by decide)]
  exact ⟨u1, u2, u3, fun kn hL => by rw [l153_cg hy hL h]; exact u4 kn hL⟩
theorem Hs_frame {kd kd' : Nat → Nat → Int32} {kp kp' : Nat → Int32} {X : Nat} (h1 : ∀ y, y ≠ X → ∀ i, kd' y i = kd y i) (h2 : ∀ y, y ≠ X → y < 100 → ∀ i, i < 13 → kp' (13 * y + i) = kp (13 * y + i)) : ∀ (n x : Nat) (r c m : Nat → Int32), n < 100 → (∀ i, 1 ≤ i → i ≤ n → (x + 100 - i) % 100 ≠ X) → Hs kd kp n x r c m → Hs kd' kp' n x r c m := by
  intro n
  induction n with
  | zero => intro x r c m _ _ _; exact trivial
  | succ n ih =>
    intro x r c m hn hX h
    obtain ⟨r', c', m', g1, g2, g3, g4, g5, g6, g7, g8, g9⟩ := h
    have hy : ((x + 99) % 100) ≠ X := fun q => hX 1 (by omega) (by omega) (by rw [← q]; congr 1)
    have hy1 : ((x + 99) % 100) < 100 := Nat.mod_lt _ (by decide)
    refine ⟨r', c', m', fun i hi => by rw [h1 _ hy, h2 _ hy hy1 i (by omega)]; exact g1 i hi, by rw [h1 _ hy]; exact g2, by rw [h1 _ hy]; exact g3, by rw [h1 _ hy]; exact g4, g5, g6, by rw [h1 _ hy, h1 _ hy, h1 _ hy, h1 _ hy]; exact g7, UndM_cg hy1 (h2 _ hy hy1) g8, ih _ _ _ _ (by omega) (fun i i1 i2 q => hX (i + 1) (by omega) (by omega) (by omega)) g9⟩
def KpA (kp : Nat → Int32) : Prop := ∀ x, x < 100 → (0 ≤ (kp (13 * x + 8)).toInt ∧ (kp (13 * x + 8)).toInt < 32) ∧ (¬ kp (13 * x + 10) = -1 → inM (kp (13 * x + 10)) (kp (13 * x + 11)))
def Inv (pc tak put nx ct : Int32) (reg c m vo mo : Nat → Int32) (kd : Nat → Nat → Int32) (kp : Nat → Int32) : Prop := pc &&& 1 = 0 ∧ 0 ≤ tak.toInt ∧ (0 ≤ put.toInt ∧ put.toInt ≤ 2000) ∧ reg 0 = 0 ∧ Rm c m ∧ Rb vo mo ∧ KpA kp ∧ ∃ x n : Nat, nx = nI x ∧ x < 100 ∧ ct = nI n ∧ n ≤ 100 ∧ Hs kd kp n x reg c m
def kpK (pc st cu va sp un put tak : Int32) (kp : Nat → Int32) (x : Nat) : Nat → Int32 := (upd (upd (upd (upd (upd (upd (upd (upd (upd (upd kp (13 * x) pc) (13 * x + 1) st) (13 * x + 2) cu) (13 * x + 3) va) (13 * x + 4) sp) (13 * x + 5) un) (13 * x + 6) put) (13 * x + 7) tak) (13 * x + 8) 0) (13 * x + 10) (-1))
def nxt (n : Nat) : Nat := if n = 100 then 100 else n + 1
theorem keep_of {pc st cu va sp un put tak : Int32} {kp : Nat → Int32} {x n : Nat} (hx : x < 100) (hn : n ≤ 100) : mF_StepMachineModel_keep pc tak put st cu va sp un (nI n) (nI x) kp = (kpK pc st cu va sp un put tak kp x, nI (nxt n), nI ((x + 1) % 100)) := by
  have e0 : (13 : Int32) * nI x = nI (13 * x) := pk_mul 13 x
  have er : (nI x + 1) - (nI x + 1) / 100 * 100 = nI ((x + 1) % 100) := by rw [nI_1]; exact pk_rem (d := 100) (by omega) (by decide) (by decide)
  have es : ∀ i : Nat, i < 13 → (nI (13 * x) + nI i).toNatClampNeg = 13 * x + i := fun i hi => ix_add (by omega)
  have ek : (13 * nI x).toNatClampNeg = 13 * x := by rw [e0, nI_clamp (by omega)]
  rw [mF_StepMachineModel_keep, er, ek, e0, show (nI (13 * x) + 1).toNatClampNeg = 13 * x + 1 from es 1 (by decide), show (nI (13 * x) + 2).toNatClampNeg = 13 * x + 2 from es 2 (by decide), show (nI (13 * x) + 3).toNatClampNeg = 13 * x + 3 from es 3 (by decide), show (nI (13 * x) + 4).toNatClampNeg = 13 * x + 4 from es 4 (by decide), show (nI (13 * x) + 5).toNatClampNeg = 13 * x + 5 from es 5 (by decide), show (nI (13 * x) + 6).toNatClampNeg = 13 * x + 6 from es 6 (by decide), show (nI (13 * x) + 7).toNatClampNeg = 13 * x + 7 from es 7 (by decide), show (nI (13 * x) + 8).toNatClampNeg = 13 * x + 8 from es 8 (by decide), show (nI (13 * x) + 10).toNatClampNeg = 13 * x + 10 from es 10 (by decide)]
  by_cases h : n = 100
  · rw [h, if_pos (by decide)]
    rfl
  · rw [if_neg (fun q => by have a := ti_le q; rw [nI_toInt (by omega), show (100 : Int32).toInt = 100 from by decide] at a; omega), nI_1, nxt, if_neg h]
    rfl
theorem open_of {x n : Nat} (hx : x < 100) (hn : n ≤ 100) : cF_Trail_open (nI x) (nI n) = (nI ((x + 1) % 100), nI (nxt n)) := by
  rw [cF_Trail_open, (pl_all x hx).2.1]
  have h100 : (100 : Int32) ≤ nI n ↔ n = 100 := (nI_leI (a := 100) (by decide) (by omega)).trans (by omega)
  by_cases b : n = 100
  · rw [if_pos (h100.mpr b), b]; rfl
  · rw [if_neg (fun q => b (h100.mp q)), nI_1, nxt, if_neg b]
theorem lat_of {x : Nat} (hx : x < 100) : mF_StepMachineModel_latest (nI ((x + 1) % 100)) = nI (13 * x) := by
  rw [mF_StepMachineModel_latest, show nI ((x + 1) % 100) + 100 = nI ((x + 1) % 100 + 100) from nI_add _ 100, show nI ((x + 1) % 100 + 100) - 1 = nI ((x + 1) % 100 + 99) from pk_sub (b := 1) (by omega), show nI ((x + 1) % 100 + 99) - nI ((x + 1) % 100 + 99) / 100 * 100 = nI (((x + 1) % 100 + 99) % 100) from pk_rem (d := 100) (by omega) (by decide) (by decide), show ((x + 1) % 100 + 99) % 100 = x by omega]
  exact pk_mul 13 x
theorem kpK_lo {pc st cu va sp un put tak : Int32} {kp : Nat → Int32} {x : Nat} : kpK pc st cu va sp un put tak kp x (13 * x + 0) = pc ∧ kpK pc st cu va sp un put tak kp x (13 * x + 1) = st ∧ kpK pc st cu va sp un put tak kp x (13 * x + 2) = cu ∧ kpK pc st cu va sp un put tak kp x (13 * x + 3) = va ∧ kpK pc st cu va sp un put tak kp x (13 * x + 4) = sp ∧ kpK pc st cu va sp un put tak kp x (13 * x + 5) = un ∧ kpK pc st cu va sp un put tak kp x (13 * x + 6) = put ∧ kpK pc st cu va sp un put tak kp x (13 * x + 7) = tak ∧ kpK pc st cu va sp un put tak kp x (13 * x + 8) = 0 ∧ kpK pc st cu va sp un put tak kp x (13 * x + 10) = -1 := by
  unfold kpK
  refine ⟨?_, ?_, ?_, ?_, ?_, ?_, ?_, ?_, ?_, ?_⟩
  · rw [pk_un (by omega), pk_un (by omega), pk_un (by omega), pk_un (by omega), pk_un (by omega), pk_un (by omega), pk_un (by omega), pk_un (by omega), pk_un (by omega)]
    exact pk_us
  · rw [pk_un (by omega), pk_un (by omega), pk_un (by omega), pk_un (by omega), pk_un (by omega), pk_un (by omega), pk_un (by omega), pk_un (by omega), pk_us]
  · rw [pk_un (by omega), pk_un (by omega), pk_un (by omega), pk_un (by omega), pk_un (by omega), pk_un (by omega), pk_un (by omega), pk_us]
  · rw [pk_un (by omega), pk_un (by omega), pk_un (by omega), pk_un (by omega), pk_un (by omega), pk_un (by omega), pk_us]
  · rw [pk_un (by omega), pk_un (by omega), pk_un (by omega), pk_un (by omega), pk_un (by omega), pk_us]
  · rw [pk_un (by omega), pk_un (by omega), pk_un (by omega), pk_un (by omega), pk_us]
  · rw [pk_un (by omega), pk_un (by omega), pk_un (by omega), pk_us]
  · rw [pk_un (by omega), pk_un (by omega), pk_us]
  · rw [pk_un (by omega), pk_us]
  · rw [pk_us]
theorem kpK_off {pc st cu va sp un put tak : Int32} {kp : Nat → Int32} {x j : Nat} (h : j < 13 * x ∨ 13 * x + 12 < j) : kpK pc st cu va sp un put tak kp x j = kp j := by
  unfold kpK
  rw [pk_un (by omega), pk_un (by omega), pk_un (by omega), pk_un (by omega), pk_un (by omega), pk_un (by omega), pk_un (by omega), pk_un (by omega), pk_un (by omega), pk_un (by omega)]
def stepW (sp u : Int32) (G : Int32 × (Nat → Int32) × Int32 × Int32 × Int32 × Int32) (K : (Nat → Int32) × Int32 × Int32) (W : (Nat → Int32) × (Nat → Int32) × (Nat → Int32) × Int32 × Int32 × Int32 × Int32 × Int32 × (Nat → Int32) × Int32 × Int32 × Int32) : Int32 × (Nat → Int32) × (Nat → Int32) × (Nat → Int32) × Int32 × Int32 × Int32 × Int32 × Int32 × (Nat → Int32) × Int32 × Int32 × Int32 × (Nat → Int32) × Int32 × Int32 × Int32 × Int32 × Int32 × Int32 := (W.2.2.2.2.2.2.1, W.1, W.2.1, W.2.2.1, W.2.2.2.1, W.2.2.2.2.1, W.2.2.2.2.2.1, W.2.2.2.2.2.2.1, W.2.2.2.2.2.2.2.1, W.2.2.2.2.2.2.2.2.1, W.2.2.2.2.2.2.2.2.2.1, W.2.2.2.2.2.2.2.2.2.2.1, W.2.2.2.2.2.2.2.2.2.2.2, G.2.1, G.2.2.2.2.1, G.2.2.2.2.2, K.2.1, K.2.2, sp + 1, u)
def stepK (on pc giv tak put va sp u tg : Int32) (m mm reg mi mo : Nat → Int32) (G : Int32 × (Nat → Int32) × Int32 × Int32 × Int32 × Int32) (K : (Nat → Int32) × Int32 × Int32) : Int32 × (Nat → Int32) × (Nat → Int32) × (Nat → Int32) × Int32 × Int32 × Int32 × Int32 × Int32 × (Nat → Int32) × Int32 × Int32 × Int32 × (Nat → Int32) × Int32 × Int32 × Int32 × Int32 × Int32 × Int32 := stepW sp u G K (mF_StepMachineModel_work on pc giv tak put 0 0 va sp K.2.2 G.2.2.2.2.1 G.2.2.2.2.2 tg G.2.1 m mm reg mi mo K.1)
def stepR (on pc giv tak put st cu va sp un kc kn u tg ju : Int32) (m mm reg mi mo kp : Nat → Int32) (G : Int32 × (Nat → Int32) × Int32 × Int32 × Int32 × Int32) (R : Int32 × Int32 × Int32) : Int32 × (Nat → Int32) × (Nat → Int32) × (Nat → Int32) × Int32 × Int32 × Int32 × Int32 × Int32 × (Nat → Int32) × Int32 × Int32 × Int32 × (Nat → Int32) × Int32 × Int32 × Int32 × Int32 × Int32 × Int32 := (if R.1 = 0 then (R.2.1, reg, kp, mo, put, tak, va, R.2.1, R.2.2, m, pc, tg, ju, G.2.1, G.2.2.2.2.1, G.2.2.2.2.2, kc, kn, sp, un) else stepK on pc giv tak put va sp u tg m mm reg mi mo G (mF_StepMachineModel_keep pc tak put st cu va sp un kc kn kp))
def stepG (on pc giv tak put st cu va sp un kc kn u tg ju : Int32) (m mm f g r reg mi mo kp : Nat → Int32) (G : Int32 × (Nat → Int32) × Int32 × Int32 × Int32 × Int32) : Int32 × (Nat → Int32) × (Nat → Int32) × (Nat → Int32) × Int32 × Int32 × Int32 × Int32 × Int32 × (Nat → Int32) × Int32 × Int32 × Int32 × (Nat → Int32) × Int32 × Int32 × Int32 × Int32 × Int32 × Int32 := (if G.1 = 0 then (G.2.2.1, reg, kp, mo, put, tak, va, G.2.2.1, G.2.2.2.1, m, pc, tg, ju, G.2.1, G.2.2.2.2.1, G.2.2.2.2.2, kc, kn, sp, un) else stepR on pc giv tak put st cu va sp un kc kn u tg ju m mm reg mi mo kp G (mF_StepMachineModel_canReach G.2.2.1 G.2.2.2.1 G.2.2.2.2.2 G.2.1 f g r reg))
theorem ms_1 (on pc giv tak put st cu va sp un kc kn tg ju : Int32) (m mm f g r reg mi mo kp : Nat → Int32) (G : Int32 × (Nat → Int32) × Int32 × Int32 × Int32 × Int32) : mF_StepMachineModel_step_1 on pc giv tak put st cu va sp un kc kn tg ju m mm f g r reg mi mo kp G = stepG on pc giv tak put st cu va sp un kc kn (un + 0) tg ju m mm f g r reg mi mo kp G := by
  rw [mF_StepMachineModel_step_1, stepG]
  refine ite_cg (fun _ => rfl) (fun _ => ?_)
  rw [mF_StepMachineModel_step_2, stepR]
  refine ite_cg (fun _ => rfl) (fun _ => ?_)
  rw [mF_StepMachineModel_step_3, stepK]
  generalize mF_StepMachineModel_keep pc tak put st cu va sp un kc kn kp = K
  generalize mF_StepMachineModel_work on pc giv tak put 0 0 va sp K.2.2 G.2.2.2.2.1 G.2.2.2.2.2 tg G.2.1 m mm reg mi mo K.1 = W
  rfl
theorem ms_5 (on pc giv tak put st cu va sp un kc kn tg ju : Int32) (m mm f g r reg mi mo kp : Nat → Int32) (G : Int32 × (Nat → Int32) × Int32 × Int32 × Int32 × Int32) : mF_StepMachineModel_step_5 on pc giv tak put st cu va sp un kc kn tg ju m mm f g r reg mi mo kp G = stepG on pc giv tak put st cu va sp un kc kn (un + 1) tg ju m mm f g r reg mi mo kp G := by
  rw [mF_StepMachineModel_step_5, stepG]
  refine ite_cg (fun _ => rfl) (fun _ => ?_)
  rw [mF_StepMachineModel_step_6, stepR]
  refine ite_cg (fun _ => rfl) (fun _ => ?_)
  rw [mF_StepMachineModel_step_7, stepK]
  generalize mF_StepMachineModel_keep pc tak put st cu va sp un kc kn kp = K
  generalize mF_StepMachineModel_work on pc giv tak put 0 0 va sp K.2.2 G.2.2.2.2.1 G.2.2.2.2.2 tg G.2.1 m mm reg mi mo K.1 = W
  rfl
theorem ms_is (on pc giv tak put st cu va sp un kc kn by_ kd_ tg ju : Int32) (part m mm f g r reg mi mo kp : Nat → Int32) (hE : mF_StepMachineModel_isEnd st = 0) : mF_StepMachineModel_step on pc giv tak put st cu va sp un kc kn by_ kd_ tg ju part m mm f g r reg mi mo kp = stepG on pc giv tak put st cu va sp un kc kn (if mF_StepMachineModel_isUnit on pc mm = 0 then un else un + 1) tg ju m mm f g r reg mi mo kp (mF_StepMachineModel_isFetched pc st cu by_ kd_ part m f g r) := by
  rw [mF_StepMachineModel_step, if_pos hE]
  by_cases h : mF_StepMachineModel_isUnit on pc mm = 0
  · rw [if_pos h, if_pos h, ms_1, Int32.add_zero]
  · rw [if_neg h, if_neg h, ms_5]
set_option maxHeartbeats 1000000 in
theorem step_core {on pc giv tak put st cu va sp un nx ct u tg ju : Int32} {reg c m vm mm vi mi vo mo kp f g r : Nat → Int32} {kd : Nat → Nat → Int32} (hS : Rseg f g) (hk : Rk vm mm) (hi : Rb vi mi) (hg : 0 ≤ giv.toInt ∧ giv.toInt ≤ 1000) (hI : Inv pc tak put nx ct reg c m vo mo kd kp) (hu : u = (if cF_Core_beginsUnit pc on vm = 0 then un else un + 1)) (F : Int32 × Int32 × Int32 × Int32 × Int32 × Int32 × Int32 × Int32 × Int32) (G : Int32 × (Nat → Int32) × Int32 × Int32 × Int32 × Int32) (fe : FE st cu F G) (okf : okF G) (okg : okG G) (hrg : ¬ F.1 = 0 → 0 ≤ pc.toInt ∧ pc.toInt < 131072) : ∃ (reg' c' m' vo' mo' kp' part' : Nat → Int32) (kd' : Nat → Nat → Int32) (pc' st' cu' va' sp' un' put' tak' n' k' d' a' b' i' nx' ct' tg' ju' by' kk' : Int32), cF_Core_advance_1 pc va sp un reg on f g r vm c giv tak put vi vo nx ct kd F = (reg', c', pc', st', cu', va', sp', un', vo', put', tak', n', k', d', a', b', i', nx', ct', kd') ∧ stepG on pc giv tak put st cu va sp un ct nx u tg ju m mm f g r reg mi mo kp G = (st', reg', kp', mo', put', tak', va', st', cu', m', pc', tg', ju', part', by', kk', ct', nx', sp', un') ∧ Inv pc' tak' put' nx' ct' reg' c' m' vo' mo' kd' kp' ∧ (¬ cF_Core_hasEnded st' = 0 ∨ ((0 ≤ pc.toInt ∧ pc.toInt < 131072) ∧ un' = (if cF_Core_beginsUnit pc on vm = 0 then un else un + 1) ∧ (pc' = pc + 2 ∨ pc' = pc + 4 ∨ ¬ cF_Core_beginsUnit pc' on vm = 0))) := by
  obtain ⟨F1, F2, F3, F4, F5, F6, F7, F8, F9⟩ := F
  obtain ⟨G1, G2, G3, G4, G5, G6⟩ := G
  rcases fe with ⟨e1, e2, e3, e4, e5⟩ | ⟨e1, e2, e3, e4, e5, e6, e7, e8, e9, e10, e11, e12, e13⟩
  · have e3' : F2 = G3 := e3
    have e4' : F3 = G4 := e4
    subst e3' e4'
    rw [cF_Core_advance_1, if_pos e1, stepG, if_pos e2]
    exact ⟨reg, c, m, vo, mo, kp, G2, kd, pc, F2, F3, va, sp, un, put, tak, F4, F5, F6, F7, F8, F9, nx, ct, tg, ju, G5, G6, rfl, rfl, hI, Or.inl e5⟩
  · have e3' : st = F2 := e3.symm
    have e4' : cu = F3 := e4.symm
    have e5' : st = G3 := e5.symm
    have e6' : cu = G4 := e6.symm
    have e7' : G5 = F4 := e7.symm
    have e9' : G6 = F5 := e9.symm
    have e10' : G2 0 = F6 := e10.symm
    have e11' : G2 1 = F7 := e11.symm
    have e12' : G2 2 = F8 := e12.symm
    have e13' : G2 3 = F9 := e13.symm
    have hn : G5 = 2 ∨ G5 = 4 := by rw [e7']; exact e8
    subst e3' e4' e5' e6' e7' e9' e10' e11' e12' e13'
    have hrg' := hrg e1
    have hp : ∀ j : Nat, j < 3 → 0 ≤ (G2 j).toInt ∧ (G2 j).toInt < 32 := okf e2
    have hkd : (0 ≤ G6.toInt ∧ G6.toInt < 48) ∧ ((G6 = 2 ∨ (4 ≤ G6.toInt ∧ G6.toInt < 10)) → G2 3 &&& 1 = 0) := okg e2
    obtain ⟨i1, i2, i3, i4, i5, i6, i7, x, n, i8, i9, i10, i11, i12⟩ := id hI
    have fr := fr_all (st := st) (cu := cu) (r := r) hS i4 hp hkd.1.1 hkd.1.2
    rw [cF_Core_advance_1, if_neg e1, stepG, if_neg e2]
    show ∃ (reg' c' m' vo' mo' kp' part' : Nat → Int32) (kd' : Nat → Nat → Int32) (pc' st' cu' va' sp' un' put' tak' n' k' d' a' b' i' nx' ct' tg' ju' by' kk' : Int32), cF_Core_advance_2 pc va sp un reg on vm c giv tak put vi vo nx ct kd (F1, st, cu, G5, G6, G2 0, G2 1, G2 2, G2 3) (cF_Core_failsInMemory st cu reg G6 (G2 1) (G2 3) f g r) = (reg', c', pc', st', cu', va', sp', un', vo', put', tak', n', k', d', a', b', i', nx', ct', kd') ∧ stepR on pc giv tak put st cu va sp un ct nx u tg ju m mm reg mi mo kp (G1, G2, st, cu, G5, G6) (mF_StepMachineModel_canReach st cu G6 G2 f g r reg) = (st', reg', kp', mo', put', tak', va', st', cu', m', pc', tg', ju', part', by', kk', ct', nx', sp', un') ∧ Inv pc' tak' put' nx' ct' reg' c' m' vo' mo' kd' kp' ∧ (¬ cF_Core_hasEnded st' = 0 ∨ ((0 ≤ pc.toInt ∧ pc.toInt < 131072) ∧ un' = (if cF_Core_beginsUnit pc on vm = 0 then un else un + 1) ∧ (pc' = pc + 2 ∨ pc' = pc + 4 ∨ ¬ cF_Core_beginsUnit pc' on vm = 0)))
    generalize cF_Core_failsInMemory st cu reg G6 (G2 1) (G2 3) f g r = C at fr ⊢
    generalize mF_StepMachineModel_canReach st cu G6 G2 f g r reg = R at fr ⊢
    obtain ⟨C1, C2, C3⟩ := C
    obtain ⟨R1, R2, R3⟩ := R
    rcases fr with ⟨q1, q2, q3, q4, q5⟩ | ⟨q1, q2, q3, q4, q5, q6, q7⟩
    · have q3' : C2 = R2 := q3
      have q4' : C3 = R3 := q4
      subst q3' q4'
      rw [cF_Core_advance_2, if_neg q1, stepR, if_pos q2]
      exact ⟨reg, c, m, vo, mo, kp, G2, kd, pc, C2, C3, va, sp, un, put, tak, G5, G6, G2 0, G2 1, G2 2, G2 3, nx, ct, tg, ju, G5, G6, rfl, rfl, hI, Or.inl q5⟩
    · have q3' : st = C2 := q3.symm
      have q4' : cu = C3 := q4.symm
      subst q3' q4'
      subst i8 i10
      rw [cF_Core_advance_2, if_pos q1, stepR, if_neg q2, keep_of i9 i11, open_of i9 i11]
      obtain ⟨l0, l1, l2, l3, l4, l5, l6, l7, l8, l10⟩ := kpK_lo (pc := pc) (st := st) (cu := cu) (va := va) (sp := sp) (un := un) (put := put) (tak := tak) (kp := kp) (x := x)
      have pw := pw_all (va := va) (sp := sp) (on := on) (tg := tg) (kn := nI ((x + 1) % 100)) (kp := kpK pc st cu va sp un put tak kp x) (N := x) i9 (lat_of i9) l8 l10 i4 i5 i6 hi hk i1 hn hp hg i2 i3 hkd.1.1 hkd.1.2 hkd.2 q7
      have pj := pj_all pc va sp G5 on giv tak put (G2 0) (G2 1) (G2 2) (G2 3) reg c vm vi vo hkd.1.1 hkd.1.2
      rw [cF_Core_advance_3, rem_is, cF_Core_advance_4, cF_Core_advance_5, stepK]
      show ∃ (reg' c' m' vo' mo' kp' part' : Nat → Int32) (kd' : Nat → Nat → Int32) (pc' st' cu' va' sp' un' put' tak' n' k' d' a' b' i' nx' ct' tg' ju' by' kk' : Int32), cF_Core_advance_6 pc sp un on vm (nI x) kd (F1, st, cu, G5, G6, G2 0, G2 1, G2 2, G2 3) (nI ((x + 1) % 100), nI (nxt n)) (pc, st, cu, va, sp, un, put, tak, rec8 G6 (G2 0), cF_Core_register reg (rec8 G6 (G2 0)), rec10 G6 (cF_Core_address reg (G2 1) (G2 3)), cF_Memory_cellOf c (rec10 G6 (cF_Core_address reg (G2 1) (G2 3)))) (cF_Core_perform pc 0 0 va sp reg G5 G6 (G2 0) (G2 1) (G2 2) (G2 3) on vm c giv tak put vi vo) = (reg', c', pc', st', cu', va', sp', un', vo', put', tak', n', k', d', a', b', i', nx', ct', kd') ∧ stepW sp u (G1, G2, st, cu, G5, G6) (kpK pc st cu va sp un put tak kp x, nI (nxt n), nI ((x + 1) % 100)) (mF_StepMachineModel_work on pc giv tak put 0 0 va sp (nI ((x + 1) % 100)) G5 G6 tg G2 m mm reg mi mo (kpK pc st cu va sp un put tak kp x)) = (st', reg', kp', mo', put', tak', va', st', cu', m', pc', tg', ju', part', by', kk', ct', nx', sp', un') ∧ Inv pc' tak' put' nx' ct' reg' c' m' vo' mo' kd' kp' ∧ (¬ cF_Core_hasEnded st' = 0 ∨ ((0 ≤ pc.toInt ∧ pc.toInt < 131072) ∧ un' = (if cF_Core_beginsUnit pc on vm = 0 then un else un + 1) ∧ (pc' = pc + 2 ∨ pc' = pc + 4 ∨ ¬ cF_Core_beginsUnit pc' on vm = 0)))
      generalize cF_Core_perform pc 0 0 va sp reg G5 G6 (G2 0) (G2 1) (G2 2) (G2 3) on vm c giv tak put vi vo = P at pw pj ⊢
      generalize mF_StepMachineModel_work on pc giv tak put 0 0 va sp (nI ((x + 1) % 100)) G5 G6 tg G2 m mm reg mi mo (kpK pc st cu va sp un put tak kp x) = W at pw ⊢
      obtain ⟨P1, P2, P3, P4, P5, P6, P7, P8, P9⟩ := P
      obtain ⟨W1, W2, W3, W4, W5, W6, W7, W8, W9, W10, W11, W12⟩ := W
      obtain ⟨w1, w2, w3, w4, w5, w6, w7, w8, w9, w10, w11, w12, w13, w14, w15, w16⟩ := pw
      have w1' : P1 = W1 := w1
      have w2' : P3 = W10 := w2
      have w3' : P4 = W7 := w3
      have w4' : P5 = W8 := w4
      have w5' : P6 = W6 := w5
      have w6' : P8 = W4 := w6
      have w7' : P9 = W5 := w7
      subst w1' w2' w3' w4' w5' w6' w7'
      have w16 : FrK x W2 (kpK pc st cu va sp un put tak kp x) := w16
      have w15 : UndM W2 x P1 W9 reg m := w15
      have c6 : ∀ kd2, (if cF_Core_beginsUnit pc on vm = 0 then (P1, P2, P3, P4, P5, P6, sp + 1, un, P7, P8, P9, G5, G6, G2 0, G2 1, G2 2, G2 3, nI ((x + 1) % 100), nI (nxt n), kd2) else (P1, P2, P3, P4, P5, P6, sp + 1, un + 1, P7, P8, P9, G5, G6, G2 0, G2 1, G2 2, G2 3, nI ((x + 1) % 100), nI (nxt n), kd2)) = ((P1, P2, P3, P4, P5, P6, sp + 1, u, P7, P8, P9, G5, G6, G2 0, G2 1, G2 2, G2 3, nI ((x + 1) % 100), nI (nxt n), kd2) : (Nat → Int32) × (Nat → Int32) × Int32 × Int32 × Int32 × Int32 × Int32 × Int32 × (Nat → Int32) × Int32 × Int32 × Int32 × Int32 × Int32 × Int32 × Int32 × Int32 × Int32 × Int32 × (Nat → Nat → Int32)) := fun kd2 => by
        rw [hu]
        by_cases h : cF_Core_beginsUnit pc on vm = 0
        · rw [if_pos h, if_pos h]
        · rw [if_neg h, if_neg h]
      refine ⟨P1, P2, W9, P7, W3, W2, G2, va_up kd x (kdl [pc, st, cu, va, sp, un, put, tak, rec8 G6 (G2 0), cF_Core_register reg (rec8 G6 (G2 0)), rec10 G6 (cF_Core_address reg (G2 1) (G2 3)), cF_Memory_cellOf c (rec10 G6 (cF_Core_address reg (G2 1) (G2 3)))]), P3, P4, P5, P6, sp + 1, u, P8, P9, G5, G6, G2 0, G2 1, G2 2, G2 3, nI ((x + 1) % 100), nI (nxt n), W11, W12, G5, G6, ?_, rfl, ⟨w11, w12, w13, w10, w8, w9, ?_, (x + 1) % 100, nxt n, rfl, Nat.mod_lt _ (by decide), rfl, ?_, ?_⟩, ?_⟩
      · rw [cF_Core_advance_6, nI_clamp (show x < 2 ^ 31 by omega)]
        exact c6 _
      · intro y hy
        by_cases hyx : y = x
        · subst hyx
          exact ⟨w15.1, w15.2.1⟩
        · have z : ∀ i, i < 13 → W2 (13 * y + i) = kp (13 * y + i) := fun i hi2 => by
            rw [w16 _ (by omega), kpK_off (by omega)]
          rw [z 8 (by decide), z 10 (by decide), z 11 (by decide)]
          exact i7 y hy
      · unfold nxt
        split <;> omega
      · have e1n : ∃ q, nxt n = q + 1 ∧ q ≤ n ∧ q < 100 := by
          unfold nxt
          by_cases h : n = 100
          · exact ⟨99, by rw [if_pos h], by omega, by decide⟩
          · exact ⟨n, by rw [if_neg h], Nat.le_refl _, by omega⟩
        obtain ⟨q, hq, hq1, hq2⟩ := e1n
        rw [hq]
        have hy : ((x + 1) % 100 + 99) % 100 = x := by omega
        unfold Hs
        rw [hy, va_up_self]
        refine ⟨reg, c, m, ?_, i1, i2, i3, i4, i5, w14, w15, ?_⟩
        · intro i hi2
          have z : W2 (13 * x + i) = kpK pc st cu va sp un put tak kp x (13 * x + i) := w16 _ (by omega)
          rw [z]
          rcases (show i = 0 ∨ i = 1 ∨ i = 2 ∨ i = 3 ∨ i = 4 ∨ i = 5 ∨ i = 6 ∨ i = 7 by omega) with h | h | h | h | h | h | h | h <;> subst h
          · exact l0.symm
          · exact l1.symm
          · exact l2.symm
          · exact l3.symm
          · exact l4.symm
          · exact l5.symm
          · exact l6.symm
          · exact l7.symm
        · refine Hs_frame (kd := kd) (kp := kp) (X := x) (fun y hy2 i => by rw [va_up_ne _ _ hy2]) (fun y hy2 hy3 i hi2 => ?_) q x reg c m hq2 (fun i j1 j2 => by omega) (Hs_mono kd kp n q x reg c m hq1 i12)
          rw [w16 _ (by omega), kpK_off (by omega)]
      · rcases pj with h | h | h
        · exact Or.inl h
        · refine Or.inr ⟨hrg', hu, ?_⟩
          have h' : P3 = pc + G5 := h
          rcases hn with h2 | h2
          · exact Or.inl (by rw [h', h2])
          · exact Or.inr (Or.inl (by rw [h', h2]))
        · exact Or.inr ⟨hrg', hu, Or.inr (Or.inr h)⟩
theorem step_alike {on pc giv tak put st cu va sp un nx ct tg ju by_ kd_ wn wk wd wa wb wi : Int32} {reg c m vm mm vi mi vo mo kp f g r part : Nat → Int32} {kd : Nat → Nat → Int32} (hS : Rseg f g) (hk : Rk vm mm) (hi : Rb vi mi) (hg : 0 ≤ giv.toInt ∧ giv.toInt ≤ 1000) (hI : Inv pc tak put nx ct reg c m vo mo kd kp) (hE : cF_Core_hasEnded st = 0) : ∃ (reg' c' m' vo' mo' kp' part' : Nat → Int32) (kd' : Nat → Nat → Int32) (pc' st' cu' va' sp' un' put' tak' n' k' d' a' b' i' nx' ct' tg' ju' by' kk' : Int32), cF_Core_advance pc st cu va sp un reg wn wk wd wa wb wi on f g r vm c giv tak put vi vo nx ct kd = (reg', c', pc', st', cu', va', sp', un', vo', put', tak', n', k', d', a', b', i', nx', ct', kd') ∧ mF_StepMachineModel_step on pc giv tak put st cu va sp un ct nx by_ kd_ tg ju part m mm f g r reg mi mo kp = (st', reg', kp', mo', put', tak', va', st', cu', m', pc', tg', ju', part', by', kk', ct', nx', sp', un') ∧ Inv pc' tak' put' nx' ct' reg' c' m' vo' mo' kd' kp' ∧ (¬ cF_Core_hasEnded st' = 0 ∨ ((0 ≤ pc.toInt ∧ pc.toInt < 131072) ∧ un' = (if cF_Core_beginsUnit pc on vm = 0 then un else un + 1) ∧ (pc' = pc + 2 ∨ pc' = pc + 4 ∨ ¬ cF_Core_beginsUnit pc' on vm = 0))) := by
  have fe := fetch_alike (r := r) hS hI.2.2.2.2.1 hI.1 st cu wn wk wd wa wb wi by_ kd_ part
  rw [cF_Core_advance, ms_is _ _ _ _ _ _ _ _ _ _ _ _ _ _ _ _ _ _ _ _ _ _ _ _ _ _ hE, ← un_alike hk]
  exact step_core hS hk hi hg hI rfl _ _ fe.1 (isF_ok _ _ _ _ _ _ _ _ _ _) (isG_ok _ _ _ _ _ _ _ _ _ _) fe.2
