theorem l2_step (x0 : Int32) (n : Nat) (k : Int32) (P : Nat → Int32) (h4 : ¬ 4 ≤ k) (h3 : ¬ 3 ≤ k) : mF_StepMachineModel_take_L2 x0 (n + 1) k P = mF_StepMachineModel_take_L2 x0 n (k + 1) (upd P k.toNatClampNeg (if mF_StepMachineModel_isShortPart x0 k = 0 then 0 else 8)) := by
  rw [mF_StepMachineModel_take_L2, if_neg h4, if_neg h3]
  split <;> rfl
theorem l2_all (x0 : Int32) (P : Nat → Int32) : (mF_StepMachineModel_take_L2 x0 (((4 : Int32).toInt - (0 : Int32).toInt).toNat + 1) (0 : Int32) P).2 = upd (upd (upd (upd P 0 (if mF_StepMachineModel_isShortPart x0 0 = 0 then 0 else 8)) 1 (if mF_StepMachineModel_isShortPart x0 1 = 0 then 0 else 8)) 2 (if mF_StepMachineModel_isShortPart x0 2 = 0 then 0 else 8)) 3 0 := by
  rw [show (((4 : Int32).toInt - (0 : Int32).toInt).toNat + 1) = 5 from by decide, l2_step x0 4 0 P (by decide) (by decide), show (0 : Int32) + 1 = 1 from by decide, l2_step x0 3 1 _ (by decide) (by decide), show (1 : Int32) + 1 = 2 from by decide, l2_step x0 2 2 _ (by decide) (by decide), show (2 : Int32) + 1 = 3 from by decide, mF_StepMachineModel_take_L2, if_neg (by decide), if_pos (by decide), show (3 : Int32) + 1 = 4 from by decide, mF_StepMachineModel_take_L2, if_pos (by decide)]
  rfl
theorem ss0 {k p : Nat} (w : Int32) {v : Int32} (h : v = if shN k p = true then 8 else 0) : IsSel (SS k p 0) w v := by
  subst h
  by_cases e : shN k p = true
  · rw [if_pos e]
    refine sel_of (sel_const w 8) fun i hi => ?_
    have h1 : ∀ i, i < 32 → (if (8 : Int32).toBitVec.getLsbD i = true then 64 else 99) = (if i = 3 then 64 else 99) := by decide
    rw [h1 i hi, SS]
    simp only [e, true_and]
  · rw [if_neg e]
    refine sel_of (sel_const w 0) fun i hi => ?_
    have h1 : ∀ i, i < 32 → (if (0 : Int32).toBitVec.getLsbD i = true then 64 else 99) = 99 := by decide
    rw [h1 i hi, SS, if_neg (fun q => e q.1)]
theorem sho_if {k p : Nat} (hk : k < 75) (hp : p < 3) : (if mF_StepMachineModel_isShortPart (nI k) (nI p) = 0 then (0 : Int32) else 8) = if shN k p = true then 8 else 0 := by
  have h := sho_is k hk p hp
  by_cases e : shN k p = true
  · rw [if_pos e, if_neg (by rw [h, e]; decide)]
  · rw [if_neg e, if_pos (h.mpr (by simpa using e))]
theorem sp_sgn {σ : Nat → Nat} {w x b : Int32} (s : Nat) (hs : s < 32) (hb : (b.toBitVec.smod 32).toNat = 31 - s) (h : IsSel σ w x) : IsSel (fun i => σ (if i < s then i else s)) w ((x <<< b) >>> b) := by
  refine sel_of (sel_sar _ hb (sel_shl _ hb h)) fun i hi => ?_
  by_cases e : i < s
  · rw [if_pos (show 31 - s + i < 32 by omega), if_neg (by omega), if_pos e, show 31 - s + i - (31 - s) = i by omega]
  · rw [if_neg e]
    by_cases e2 : i = s
    · rw [if_pos (show 31 - s + i < 32 by omega), if_neg (by omega), show 31 - s + i - (31 - s) = s by omega]
    · rw [if_neg (show ¬ 31 - s + i < 32 by omega), if_neg (by omega), show 31 - (31 - s) = s by omega]
theorem c_3 : (3 : Int32).toNatClampNeg = 3 := by decide
theorem fin_ok {k : Nat} (hk : k < 75) (w : Int32) (P : Nat → Int32) (h : ∀ p, p < 4 → IsSel (SS k p (bN k)) w (P p)) : ∃ Q, finT (nI k) P = (mF_StepMachineModel_areGood Q (nI k), Q) ∧ ∀ p, p < 4 → IsSel (SP k p) w (Q p) := by
  have h56 : nI k = 56 ↔ k = 56 := nI_eq (b := 56) (by omega) (by decide)
  have hs := sgn_is k hk
  unfold finT
  by_cases e : sgN k = 99
  · rw [if_pos (hs.1 e)]
    by_cases e2 : k = 56
    · subst e2; exact absurd e (by decide)
    · rw [if_neg (fun q => e2 (h56.mp q))]
      refine ⟨P, rfl, fun p hp => sel_of (h p hp) fun i hi => ?_⟩
      unfold SP
      by_cases e3 : p = 3
      · rw [if_pos e3, if_neg (fun q => e2 q.1), if_pos e, e3]
      · rw [if_neg e3]
  · have h1 := hs.2 e
    rw [if_neg h1.1]
    by_cases e2 : k = 56
    · rw [if_pos (h56.mpr e2)]
      refine ⟨_, rfl, fun p hp => ?_⟩
      rw [c_3]
      by_cases e3 : p = 3
      · subst e3
        rw [pk_us, pk_us]
        refine sel_of (sel_and 1048575 (sp_sgn (sgN k) h1.2.2 h1.2.1 (h 3 hp))) fun i hi => ?_
        have h2 : ∀ i, i < 32 → (1048575 : Int32).toBitVec.getLsbD i = decide (i < 20) := by decide
        rw [h2 i hi]
        unfold SP
        rw [if_pos rfl]
        by_cases e4 : 20 ≤ i
        · rw [decide_eq_false (show ¬ i < 20 by omega), if_neg Bool.false_ne_true, if_pos ⟨e2, e4⟩]
        · rw [decide_eq_true (show i < 20 by omega), if_pos rfl, if_neg (c := k = 56 ∧ 20 ≤ i) (fun q => e4 q.2), if_neg e]
      · rw [pk_un e3, pk_un e3]
        refine sel_of (h p hp) fun i hi => ?_
        unfold SP
        rw [if_neg e3]
    · rw [if_neg (fun q => e2 (h56.mp q))]
      refine ⟨_, rfl, fun p hp => ?_⟩
      rw [c_3]
      by_cases e3 : p = 3
      · subst e3
        rw [pk_us]
        refine sel_of (sp_sgn (sgN k) h1.2.2 h1.2.1 (h 3 hp)) fun i hi => ?_
        unfold SP
        rw [if_pos rfl, if_neg (c := k = 56 ∧ 20 ≤ i) (fun q => e2 q.1), if_neg e]
      · rw [pk_un e3]
        refine sel_of (h p hp) fun i hi => ?_
        unfold SP
        rw [if_neg e3]
theorem take_all {k : Nat} (hk : k < 75) (w : Int32) (part : Nat → Int32) : (MTf k w 0 → ∃ P, mF_StepMachineModel_take part (nI k) w = (mF_StepMachineModel_areGood P (nI k), P) ∧ ∀ p, p < 4 → IsSel (SP k p) w (P p)) ∧ (¬ MTf k w 0 → (mF_StepMachineModel_take part (nI k) w).1 = 0) := by
  have h0 : ∀ p, p < 4 → IsSel (SS k p 0) w ((upd (upd (upd (upd part 0 (if mF_StepMachineModel_isShortPart (nI k) 0 = 0 then 0 else 8)) 1 (if mF_StepMachineModel_isShortPart (nI k) 1 = 0 then 0 else 8)) 2 (if mF_StepMachineModel_isShortPart (nI k) 2 = 0 then 0 else 8)) 3 0) p) := by
    intro p hp
    rcases (show p = 0 ∨ p = 1 ∨ p = 2 ∨ p = 3 by omega) with e | e | e | e <;> subst e
    · rw [pk_un (by decide), pk_un (by decide), pk_un (by decide), pk_us]
      exact ss0 w (sho_if hk (by decide))
    · rw [pk_un (by decide), pk_un (by decide), pk_us]
      exact ss0 w (sho_if hk (by decide))
    · rw [pk_un (by decide), pk_us]
      exact ss0 w (sho_if hk (by decide))
    · rw [pk_us]
      exact ss0 w (by rw [if_neg]; simp [shN])
  have hn : (((mF_StepMachineModel_bitsOf (nI k)).toInt - (0 : Int32).toInt).toNat + 1) = bN k + 1 := by
    rw [bits_is k hk, nI_toInt (by have := bN_le k; omega), show (0 : Int32).toInt = 0 from by decide]
    omega
  rw [mF_StepMachineModel_take, mF_StepMachineModel_take_1, l2_all, hn]
  have h := take_run hk w (bN k) 0 _ (by omega) h0
  refine ⟨fun hm => ?_, fun hm => h.2 hm⟩
  obtain ⟨P', e, hP'⟩ := h.1 hm
  obtain ⟨Q, e2, hQ⟩ := fin_ok hk w P' hP'
  exact ⟨Q, e.trans e2, hQ⟩
theorem good_eq (P : Nat → Int32) (x : Int32) : mF_StepMachineModel_areGood P x = (if mF_StepMachineModel_has x 0 = 0 ∨ ¬ mF_StepMachineModel_isRegister x 0 (P 0) = 0 then (if mF_StepMachineModel_has x 1 = 0 ∨ ¬ mF_StepMachineModel_isRegister x 1 (P 1) = 0 then (if mF_StepMachineModel_has x 2 = 0 ∨ ¬ mF_StepMachineModel_isRegister x 2 (P 2) = 0 then (if mF_StepMachineModel_has x 3 = 0 ∨ ¬ mF_StepMachineModel_isImmediate x (P 3).toInt64 = 0 then 1 else 0) else 0) else 0) else 0) := by
  have h : ∀ (n : Nat) (k : Int32) (m : Nat), ¬ 3 ≤ k → k.toNatClampNeg = m → mF_StepMachineModel_areGood_L2 P x (n + 1) k = if mF_StepMachineModel_has x k = 0 ∨ ¬ mF_StepMachineModel_isRegister x k (P m) = 0 then mF_StepMachineModel_areGood_L2 P x n (k + 1) else 0 := by
    intro n k m h3 hm
    rw [mF_StepMachineModel_areGood_L2, if_neg h3, hm]
    by_cases e1 : mF_StepMachineModel_has x k = 0
    · rw [if_pos e1, if_pos (Or.inl e1)]
    · rw [if_neg e1]
      by_cases e2 : mF_StepMachineModel_isRegister x k (P m) = 0
      · rw [if_pos e2, if_neg (by rintro (q | q); exact e1 q; exact q e2)]
      · rw [if_neg e2, if_pos (Or.inr e2)]
  rw [mF_StepMachineModel_areGood, show (((3 : Int32).toInt - (0 : Int32).toInt).toNat + 1) = 4 from by decide, h 3 0 0 (by decide) (by decide), show (0 : Int32) + 1 = 1 from by decide, h 2 1 1 (by decide) (by decide), show (1 : Int32) + 1 = 2 from by decide, h 1 2 2 (by decide) (by decide), show (2 : Int32) + 1 = 3 from by decide, mF_StepMachineModel_areGood_L2, if_pos (show (3 : Int32) ≤ 3 from by decide), c_3]
  have e : (if mF_StepMachineModel_has x 3 = 0 then (1 : Int32) else (if mF_StepMachineModel_isImmediate x (P 3).toInt64 = 0 then 0 else 1)) = (if mF_StepMachineModel_has x 3 = 0 ∨ ¬ mF_StepMachineModel_isImmediate x (P 3).toInt64 = 0 then 1 else 0) := by
    by_cases e1 : mF_StepMachineModel_has x 3 = 0
    · rw [if_pos e1, if_pos (Or.inl e1)]
    · rw [if_neg e1]
      by_cases e2 : mF_StepMachineModel_isImmediate x (P 3).toInt64 = 0
      · rw [if_pos e2, if_neg (by rintro (q | q); exact e1 q; exact q e2)]
      · rw [if_neg e2, if_pos (Or.inr e2)]
  rw [e]
theorem good_congr {P Q : Nat → Int32} (x : Int32) (h : ∀ p, p < 4 → P p = Q p) : mF_StepMachineModel_areGood P x = mF_StepMachineModel_areGood Q x := by
  rw [good_eq, good_eq, h 0 (by decide), h 1 (by decide), h 2 (by decide), h 3 (by decide)]
def FT (k : Nat) (w : Int32) (P : Nat → Int32) : Prop := MTf k w 0 ∧ (∀ p, p < 4 → IsSel (SP k p) w (P p)) ∧ ¬ mF_StepMachineModel_areGood P (nI k) = 0
theorem take_yes {k : Nat} (hk : k < 75) (w : Int32) (part : Nat → Int32) (h : ¬ (mF_StepMachineModel_take part (nI k) w).1 = 0) : FT k w (mF_StepMachineModel_take part (nI k) w).2 := by
  by_cases hm : MTf k w 0
  · obtain ⟨P, e, hP⟩ := (take_all hk w part).1 hm
    rw [e] at h ⊢
    exact ⟨hm, hP, h⟩
  · exact absurd ((take_all hk w part).2 hm) h
theorem take_not {k : Nat} (hk : k < 75) (w : Int32) (part : Nat → Int32) (h : (mF_StepMachineModel_take part (nI k) w).1 = 0) (P : Nat → Int32) : ¬ FT k w P := by
  rintro ⟨hm, hP, hg⟩
  obtain ⟨Q, e, hQ⟩ := (take_all hk w part).1 hm
  rw [e] at h
  exact hg ((good_congr _ fun p hp => sel_eq (hP p hp) (hQ p hp) fun _ _ => rfl).trans h)

theorem find_run (w : Int32) : ∀ (n k : Nat) (P : Nat → Int32), k + n = 75 → (∃ k' P', k ≤ k' ∧ k' < 75 ∧ mF_StepMachineModel_find_L32 w (n + 1) (nI k) P = (nI k', P') ∧ FT k' w P') ∨ ((mF_StepMachineModel_find_L32 w (n + 1) (nI k) P).1 = -1 ∧ ∀ k', k ≤ k' → k' < 75 → ∀ P', ¬ FT k' w P') := by
  intro n
  induction n with
  | zero =>
    intro k P hk
    right
    rw [mF_StepMachineModel_find_L32, if_pos (by rw [show (75 : Int32) = nI 75 from rfl, nJ_le (by decide) (by omega)]; omega)]
    exact ⟨rfl, fun k' h1 h2 => by omega⟩
  | succ n ih =>
    intro k P hk
    have hk75 : k < 75 := by omega
    rw [mF_StepMachineModel_find_L32, if_neg (by rw [show (75 : Int32) = nI 75 from rfl, nJ_le (by decide) (by omega)]; omega), mF_StepMachineModel_find_1]
    by_cases e : (mF_StepMachineModel_take P (nI k) w).1 = 0
    · rw [if_pos e, ← nI_succ]
      rcases ih (k + 1) (mF_StepMachineModel_take P (nI k) w).2 (by omega) with ⟨k', P', h1, h2, h3⟩ | ⟨h1, h2⟩
      · exact Or.inl ⟨k', P', by omega, h2, h3⟩
      · refine Or.inr ⟨h1, fun k' g1 g2 => ?_⟩
        by_cases e2 : k' = k
        · subst e2
          exact take_not hk75 w P e
        · exact h2 k' (by omega) g2
    · rw [if_neg e]
      exact Or.inl ⟨k, _, Nat.le_refl k, by omega, rfl, take_yes hk75 w P e⟩

theorem find_runb (w : Int32) : ∀ (n k : Nat) (P : Nat → Int32), k + n = 48 → (∃ k' P', k ≤ k' ∧ k' < 48 ∧ mF_StepMachineModel_find_L32b w (n + 1) (nI k) P = (nI k', P') ∧ FT k' w P') ∨ ((mF_StepMachineModel_find_L32b w (n + 1) (nI k) P).1 = -1 ∧ ∀ k', k ≤ k' → k' < 48 → ∀ P', ¬ FT k' w P') := by
  intro n
  induction n with
  | zero =>
    intro k P hk
    right
    rw [mF_StepMachineModel_find_L32b, if_pos (by rw [show (48 : Int32) = nI 48 from rfl, nJ_le (by decide) (by omega)]; omega)]
    exact ⟨rfl, fun k' h1 h2 => by omega⟩
  | succ n ih =>
    intro k P hk
    have hk75 : k < 75 := by omega
    rw [mF_StepMachineModel_find_L32b, if_neg (by rw [show (48 : Int32) = nI 48 from rfl, nJ_le (by decide) (by omega)]; omega), mF_StepMachineModel_find_2]
    by_cases e : (mF_StepMachineModel_take P (nI k) w).1 = 0
    · rw [if_pos e, ← nI_succ]
      rcases ih (k + 1) (mF_StepMachineModel_take P (nI k) w).2 (by omega) with ⟨k', P', h1, h2, h3⟩ | ⟨h1, h2⟩
      · exact Or.inl ⟨k', P', by omega, h2, h3⟩
      · refine Or.inr ⟨h1, fun k' g1 g2 => ?_⟩
        by_cases e2 : k' = k
        · subst e2
          exact take_not hk75 w P e
        · exact h2 k' (by omega) g2
    · rw [if_neg e]
      exact Or.inl ⟨k, _, Nat.le_refl k, by omega, rfl, take_yes hk75 w P e⟩

theorem find_short {w : Int32} (h : mF_StepMachineModel_isLong w = 0) (part : Nat → Int32) : (∃ k P, 48 ≤ k ∧ k < 75 ∧ mF_StepMachineModel_find part w = (nI k, P) ∧ FT k w P) ∨ ((mF_StepMachineModel_find part w).1 = -1 ∧ ∀ k, 48 ≤ k → k < 75 → ∀ P, ¬ FT k w P) := by
  rw [mF_StepMachineModel_find, if_pos h, show (((75 : Int32).toInt - (48 : Int32).toInt).toNat + 1) = 27 + 1 from by decide]
  exact find_run w 27 48 part (by decide)
theorem find_long {w : Int32} (h : ¬ mF_StepMachineModel_isLong w = 0) (part : Nat → Int32) : (∃ k P, k < 48 ∧ mF_StepMachineModel_find part w = (nI k, P) ∧ FT k w P) ∨ ((mF_StepMachineModel_find part w).1 = -1 ∧ ∀ k, k < 48 → ∀ P, ¬ FT k w P) := by
  rw [mF_StepMachineModel_find, if_neg h, show (((48 : Int32).toInt - (0 : Int32).toInt).toNat + 1) = 48 + 1 from by decide]
  rcases find_runb w 48 0 part (by decide) with ⟨k, P, _, h2, h3, h4⟩ | ⟨h1, h2⟩
  · exact Or.inl ⟨k, P, h2, h3, h4⟩
  · exact Or.inr ⟨h1, fun k hk => h2 k (Nat.zero_le k) hk⟩
theorem sp_reg : ∀ k, k < 75 → ∀ p, p < 3 → ∀ i, i < 32 → 5 ≤ i → SP k p i = 99 := by decide +kernel
theorem ft_reg {k p : Nat} {w : Int32} {P : Nat → Int32} (hk : k < 75) (h : FT k w P) (hp : p < 3) : 0 ≤ (P p).toInt ∧ (P p).toInt < 32 :=
  sel_low 5 (by decide) (h.2.1 p (by omega)) fun i hi h5 => sp_reg k hk p hp i hi h5
/-- parts behind a find that found -/
theorem find_reg {w : Int32} (part : Nat → Int32) (h : ¬ (mF_StepMachineModel_find part w).1 = -1) : ∀ p, p < 3 → 0 ≤ ((mF_StepMachineModel_find part w).2 p).toInt ∧ ((mF_StepMachineModel_find part w).2 p).toInt < 32 := by
  intro p hp
  by_cases e : mF_StepMachineModel_isLong w = 0
  · rcases find_short e part with ⟨k, P, h1, h2, h3, h4⟩ | ⟨h1, _⟩
    · rw [h3]; exact ft_reg h2 h4 hp
    · exact absurd h1 h
  · rcases find_long e part with ⟨k, P, h2, h3, h4⟩ | ⟨h1, _⟩
    · rw [h3]; exact ft_reg (by omega) h4 hp
    · exact absurd h1 h
