theorem put_step {K j n : Nat} {v : Int32} {P : Nat → Int32} (hK : K < 48) (hj : j < 32) : mF_StepMachineModel_put_L4 P (nI K) (n + 1) (nI j) v = mF_StepMachineModel_put_L4 P (nI K) n (nI (j + 1)) (v ||| (if rN K j < 2 then (rowT (32 * K + j) <<< (nI j &&& 31)) else (((P (pN K j) >>> ((rowT (32 * K + j) - rowT (32 * K + j) / 100 * 100) &&& 31)) &&& 1) <<< (nI j &&& 31)))) := by
  have hK7 : K < 75 := by omega
  have hb : bN K = 32 := if_pos hK
  have hr := row_nat K hK7 j hj
  have h5 : ∀ K, K < 48 → ∀ j, j < 32 → rN K j < 500 := by decide +kernel
  rw [mF_StepMachineModel_put_L4, bits_is K hK7, hb, if_neg (by rw [nJ_le (by decide) (by omega)]; omega), row_at hK7 hj, ← nI_succ]
  by_cases e : rN K j < 2
  · rw [if_neg (hr.1 e).1, if_pos e]
  · have h2 := hr.2.2.1 (by omega) (h5 K hK j hj)
    rw [if_pos (hr.2.1 (by omega)).1, if_neg h2.1, h2.2.2, if_neg e]
def PW (K : Nat) (τ : Nat → Nat → Nat) (j : Nat) : Nat := if rN K j < 2 then (if rN K j = 1 then 64 else 99) else τ (pN K j) (iN K j)
theorem shl_one (w : Int32) {t j : Nat} (ht : t < 2) (hj : j < 32) : IsSel (fun i => if i = j then (if t = 1 then 64 else 99) else 99) w (nI t <<< (nI j &&& 31)) := by
  refine sel_of (sel_shl j (amt_is j hj) (sel_const w (nI t))) fun i hi => ?_
  have h1 : ∀ t, t < 2 → ∀ i, i < 32 → (if (nI t).toBitVec.getLsbD i = true then 64 else 99) = (if i = 0 then (if t = 1 then 64 else 99) else 99) := by decide
  by_cases e : i < j
  · rw [if_pos e, if_neg (by omega)]
  · rw [if_neg e, h1 t ht (i - j) (by omega)]
    by_cases e2 : i = j
    · rw [if_pos (by omega), if_pos e2]
    · rw [if_neg (by omega), if_neg e2]
theorem put_run {K : Nat} (hK : K < 48) (w : Int32) {τ : Nat → Nat → Nat} {P : Nat → Int32} (hτ : ∀ p, p < 4 → ∀ i, i < 32 → τ p i < 32 ∨ τ p i = 64 ∨ τ p i = 99) (hP : ∀ p, p < 4 → IsSel (τ p) w (P p)) : ∀ (n j : Nat) (v : Int32), j + n = 32 → IsSel (fun i => if i < j then PW K τ i else 99) w v → IsSel (PW K τ) w (mF_StepMachineModel_put_L4 P (nI K) (n + 1) (nI j) v).2 := by
  have hK7 : K < 75 := by omega
  intro n
  induction n with
  | zero =>
    intro j v hj hv
    have hb : bN K = 32 := if_pos hK
    rw [mF_StepMachineModel_put_L4, bits_is K hK7, hb, if_pos (by rw [nJ_le (by decide) (by omega)]; omega)]
    exact sel_of hv fun i hi => if_pos (by omega)
  | succ n ih =>
    intro j v hj hv
    rw [put_step hK (by omega)]
    refine ih (j + 1) _ (by omega) ?_
    have hx : IsSel (fun i => if i = j then PW K τ j else 99) w (if rN K j < 2 then (rowT (32 * K + j) <<< (nI j &&& 31)) else (((P (pN K j) >>> ((rowT (32 * K + j) - rowT (32 * K + j) / 100 * 100) &&& 31)) &&& 1) <<< (nI j &&& 31))) := by
      unfold PW
      by_cases e : rN K j < 2
      · rw [if_pos e, if_pos e, (row_is K hK7 j (by omega)).1]
        exact shl_one w e (by omega)
      · rw [if_neg e, if_neg e]
        have hr := (row_nat K hK7 j (by omega)).2.1 (by omega)
        refine sel_of (sel_trans (hP _ hr.2.2.2.2) (bit_shl (P (pN K j)) (iN K j) j hr.2.2.2.1 hr.2.2.1 (amt_is j (by omega)))) fun i hi => ?_
        by_cases e2 : i = j
        · simp only [if_pos e2, if_pos hr.2.2.2.1]
        · simp only [if_neg e2]
          rw [if_neg (by decide), if_neg (by decide)]
    refine sel_of (sel_or hv hx fun i hi => ?_) fun i hi => ?_
    · by_cases e : i < j
      · right; rw [if_neg (by omega)]
      · left; rw [if_neg e]
    · by_cases e : i < j
      · rw [if_pos e, if_neg (show ¬ i = j by omega), if_pos (show i < j + 1 by omega)]
        by_cases e2 : PW K τ i = 99
        · rw [if_pos e2, e2]
        · rw [if_neg e2]
      · rw [if_neg e, if_pos rfl]
        by_cases e2 : i = j
        · rw [if_pos e2, if_pos (by omega), e2]
        · rw [if_neg e2, if_neg (by omega)]
theorem put_sel {K : Nat} (hK : K < 48) (w : Int32) {τ : Nat → Nat → Nat} {P : Nat → Int32} (hτ : ∀ p, p < 4 → ∀ i, i < 32 → τ p i < 32 ∨ τ p i = 64 ∨ τ p i = 99) (hP : ∀ p, p < 4 → IsSel (τ p) w (P p)) : IsSel (PW K τ) w (mF_StepMachineModel_put P (nI K)) := by
  have hb : bN K = 32 := if_pos hK
  rw [mF_StepMachineModel_put, mF_StepMachineModel_put_1, bits_is K (by omega), hb, show ((nI 32).toInt - (0 : Int32).toInt).toNat + 1 = 32 + 1 from by decide]
  refine put_run hK w hτ hP 32 0 0 rfl (sel_of (sel_const w 0) fun i hi => ?_)
  have h1 : ∀ i, i < 32 → (if (0 : Int32).toBitVec.getLsbD i = true then 64 else 99) = 99 := by decide
  rw [h1 i hi, if_neg (by omega)]
theorem long_one : ∀ K, K < 48 → ∀ k, k < 48 → K ≠ k → ∃ j, j < 32 ∧ rN K j < 2 ∧ rN k j < 2 ∧ rN K j ≠ rN k j := by decide +kernel
theorem mt_one {K k : Nat} {w : Int32} (hK : K < 48) (hk : k < 48) (h : MTf K w 0) (g : MTf k w 0) : K = k := by
  by_cases e : K = k
  · exact e
  · obtain ⟨j, h1, h2, h3, h4⟩ := long_one K hK k hk e
    have a := h j (Nat.zero_le j) (by rw [show bN K = 32 from if_pos hK]; exact h1) h2
    have b := g j (Nat.zero_le j) (by rw [show bN k = 32 from if_pos hk]; exact h1) h3
    rw [a] at b
    have := decide_eq_decide.mp b
    omega
-- numbers of 64 bits
theorem i64_mod0 {x st : Int64} (h0 : 0 < st.toInt) : x - x / st * st = 0 ↔ x.toInt % st.toInt = 0 := by
  have b1 := Int64.toInt_lt x
  have b2 := Int64.le_toInt x
  have e := Int.mul_tdiv_add_tmod x.toInt st.toInt
  have hq : -9223372036854775808 ≤ x.toInt.tdiv st.toInt ∧ x.toInt.tdiv st.toInt < 9223372036854775808 := by
    have h := Int.natAbs_tdiv_le_natAbs x.toInt st.toInt
    by_cases hx : 0 ≤ x.toInt
    · have := Int.tdiv_nonneg hx (Int.le_of_lt h0)
      omega
    · have h2 : x.toInt.tdiv st.toInt ≤ 0 := by
        have h3 := Int.tdiv_nonneg (a := -x.toInt) (b := st.toInt) (by omega) (Int.le_of_lt h0)
        rw [Int.neg_tdiv] at h3
        omega
      omega
  have hm : -9223372036854775808 ≤ x.toInt.tdiv st.toInt * st.toInt ∧ x.toInt.tdiv st.toInt * st.toInt < 9223372036854775808 := by
    rw [Int.mul_comm]
    by_cases hx : 0 ≤ x.toInt
    · have h1 := Int.tmod_nonneg st.toInt hx
      have h2 := Int.mul_nonneg (Int.le_of_lt h0) (Int.tdiv_nonneg hx (Int.le_of_lt h0))
      omega
    · have h1 : x.toInt.tmod st.toInt ≤ 0 := by
        have := Int.tmod_nonneg st.toInt (a := -x.toInt) (by omega)
        rw [Int.neg_tmod] at this
        omega
      have h3 := Int.mul_nonneg (Int.le_of_lt h0) (Int.tdiv_nonneg (a := -x.toInt) (b := st.toInt) (by omega) (Int.le_of_lt h0))
      rw [Int.neg_tdiv, Int.mul_neg] at h3
      omega
  have hd : (x / st).toInt = x.toInt.tdiv st.toInt := by
    rw [Int64.toInt_div]
    exact Int.bmod_eq_of_le (by omega) (by omega)
  have hp : (x / st * st).toInt = x.toInt.tdiv st.toInt * st.toInt := by
    rw [Int64.toInt_mul, hd]
    exact Int.bmod_eq_of_le (by omega) (by omega)
  have hs : (x - x / st * st).toInt = x.toInt.tmod st.toInt := by
    rw [Int64.toInt_sub, hp]
    rw [Int.mul_comm] at e
    have hb : x.toInt - x.toInt.tdiv st.toInt * st.toInt = x.toInt.tmod st.toInt := by omega
    rw [hb]
    have h1 : x.toInt.tmod st.toInt = x.toInt - x.toInt.tdiv st.toInt * st.toInt := hb.symm
    have h2 : -9223372036854775808 ≤ x.toInt.tmod st.toInt ∧ x.toInt.tmod st.toInt < 9223372036854775808 := by
      by_cases hx : 0 ≤ x.toInt
      · have h1 := Int.tmod_nonneg st.toInt hx
        have h3 := Int.mul_nonneg (Int.tdiv_nonneg hx (Int.le_of_lt h0)) (Int.le_of_lt h0)
        omega
      · have h1 : x.toInt.tmod st.toInt ≤ 0 := by
          have := Int.tmod_nonneg st.toInt (a := -x.toInt) (by omega)
          rw [Int.neg_tmod] at this
          omega
        have h3 := Int.mul_nonneg (Int.tdiv_nonneg (a := -x.toInt) (b := st.toInt) (by omega) (Int.le_of_lt h0)) (Int.le_of_lt h0)
        rw [Int.neg_tdiv, Int.neg_mul] at h3
        omega
    exact Int.bmod_eq_of_le (by omega) (by omega)
  rw [← Int64.toInt_inj, hs, show (0 : Int64).toInt = 0 from by decide]
  rw [← Int.dvd_iff_tmod_eq_zero, Int.dvd_iff_emod_eq_zero]
theorem step_is (v : Int32) {lo hi st : Int64} (h0 : 0 < st.toInt) : mF_StepMachineModel_isStep v.toInt64 lo hi st = if lo.toInt ≤ v.toInt ∧ v.toInt ≤ hi.toInt ∧ v.toInt % st.toInt = 0 then 1 else 0 := by
  have ev : v.toInt64.toInt = v.toInt := Int32.toInt_toInt64 v
  rw [mF_StepMachineModel_isStep]
  simp only [lg_cmp_lt, lg_cmp_gt, lg_cmp_eq, Int64.lt_iff_toInt_lt, i64_mod0 h0, ev]
  by_cases h1 : v.toInt < lo.toInt
  · rw [if_pos h1, if_neg (by omega)]
  · rw [if_neg h1]
    by_cases h2 : hi.toInt < v.toInt
    · rw [if_pos h2, if_neg (by omega)]
    · rw [if_neg h2]
      by_cases h3 : v.toInt % st.toInt = 0
      · rw [if_pos h3, if_pos ⟨by omega, by omega, h3⟩]
      · rw [if_neg h3, if_neg (fun q => h3 q.2.2)]
theorem im_f : ∀ k, k < 48 → (2 ≤ nI k ↔ 2 ≤ k) ∧ (nI k = 2 ↔ k = 2) ∧ (mF_StepMachineModel_isBranch (nI k) = 0 ↔ ¬(4 ≤ k ∧ k < 10)) ∧ (mF_StepMachineModel_isShift (nI k) = 0 ↔ ¬ (24 ≤ k ∧ k < 27)) ∧ ¬ 48 ≤ nI k := by decide +kernel
theorem sp_im0 : ∀ k, k < 2 → ∀ i, i < 32 → 20 ≤ i → SP k 3 i = 99 := by decide +kernel
theorem sp_im2 : SP 2 3 0 = 99 ∧ ∀ i, i < 32 → 20 ≤ i → SP 2 3 i = SP 2 3 20 := by decide +kernel
theorem sp_imB : ∀ k, k < 10 → 4 ≤ k → SP k 3 0 = 99 ∧ ∀ i, i < 32 → 12 ≤ i → SP k 3 i = SP k 3 12 := by decide +kernel
theorem sp_imS : ∀ k, k < 27 → 24 ≤ k → ∀ i, i < 32 → 5 ≤ i → SP k 3 i = 99 := by decide +kernel
theorem sp_imJ : ∀ k, k < 48 → (k < 3 ∨ (4 ≤ k ∧ k < 10) ∨ (24 ≤ k ∧ k < 27)) ∨ ∀ i, i < 32 → 11 ≤ i → SP k 3 i = SP k 3 11 := by decide +kernel
theorem sp_imI (k : Nat) (hk : k < 48) (h3 : 3 ≤ k) (h4 : ¬(4 ≤ k ∧ k < 10)) (h5 : ¬(24 ≤ k ∧ k < 27)) : ∀ i, i < 32 → 11 ≤ i → SP k 3 i = SP k 3 11 := by
  rcases sp_imJ k hk with h | h
  · omega
  · exact h
theorem good_imm {k : Nat} {w v : Int32} (hk : k < 48) (h : IsSel (SP k 3) w v) : ¬ mF_StepMachineModel_isImmediate (nI k) v.toInt64 = 0 := by
  have f := im_f k hk
  rw [mF_StepMachineModel_isImmediate]
  by_cases h1 : 2 ≤ k
  · rw [if_pos (f.1.mpr h1)]
    by_cases h2 : k = 2
    · subst h2
      rw [if_pos (show nI 2 = 2 from rfl), step_is v (by decide), if_pos]
      · decide
      · have a := sel_sgn 20 (by decide) h sp_im2.2
        have b := sel_mul 1 (by decide) h fun i hi => by rw [show i = 0 by omega]; exact sp_im2.1
        rw [show (-1048576 : Int64).toInt = -1048576 from by decide, show (1048574 : Int64).toInt = 1048574 from by decide, show (2 : Int64).toInt = 2 from by decide]
        omega
    · rw [if_neg (fun q => h2 (f.2.1.mp q))]
      by_cases h3 : 4 ≤ k ∧ k < 10
      · rw [if_neg (fun q => f.2.2.1.mp q h3), step_is v (by decide), if_pos]
        · decide
        · have s := sp_imB k h3.2 h3.1
          have a := sel_sgn 12 (by decide) h s.2
          have b := sel_mul 1 (by decide) h fun i hi => by rw [show i = 0 by omega]; exact s.1
          rw [show (-4096 : Int64).toInt = -4096 from by decide, show (4094 : Int64).toInt = 4094 from by decide, show (2 : Int64).toInt = 2 from by decide]
          omega
      · rw [if_pos (f.2.2.1.mpr h3)]
        by_cases h4 : 24 ≤ k ∧ k < 27
        · rw [if_neg (fun q => f.2.2.2.1.mp q h4), step_is v (by decide), if_pos]
          · decide
          · have a := sel_low 5 (by decide) h (sp_imS k h4.2 h4.1)
            rw [show (0 : Int64).toInt = 0 from by decide, show (31 : Int64).toInt = 31 from by decide, show (1 : Int64).toInt = 1 from by decide]
            omega
        · rw [if_pos (f.2.2.2.1.mpr h4), if_neg f.2.2.2.2, step_is v (by decide), if_pos]
          · decide
          · have a := sel_sgn 11 (by decide) h (sp_imI k hk (by omega) h3 h4)
            rw [show (-2048 : Int64).toInt = -2048 from by decide, show (2047 : Int64).toInt = 2047 from by decide, show (1 : Int64).toInt = 1 from by decide]
            omega
  · rw [if_neg (fun q => h1 (f.1.mp q)), step_is v (by decide), if_pos]
    · decide
    · have a := sel_low 20 (by decide) h (sp_im0 k (by omega))
      rw [show (0 : Int64).toInt = 0 from by decide, show (1048575 : Int64).toInt = 1048575 from by decide, show (1 : Int64).toInt = 1 from by decide]
      omega
theorem good_rl {k p : Nat} {w v : Int32} (hk : k < 48) (hp : p < 3) (h : IsSel (SP k p) w v) : ¬ mF_StepMachineModel_isRegister (nI k) (nI p) v = 0 := by
  have hs : ∀ k, k < 48 → ∀ p, p < 3 → shN k p = false := by decide +kernel
  have a := sel_low 5 (by decide) h fun i hi h5 => sp_reg k (by omega) p hp i hi h5
  rw [mF_StepMachineModel_isRegister, if_pos ((sho_is k (by omega) p hp).mpr (hs k hk p hp)), if_neg (fun q => by have := ti_lt q; rw [show (0 : Int32).toInt = 0 from by decide] at this; omega), if_pos (Int32.le_iff_toInt_le.mpr (by rw [show (31 : Int32).toInt = 31 from by decide]; omega)), if_pos (by rw [show (48 : Int32) = nI 48 from rfl, Int32.lt_iff_toInt_lt, nI_toInt (by omega), nI_toInt (by decide)]; omega)]
  decide
theorem good_long {k : Nat} {w : Int32} {P : Nat → Int32} (hk : k < 48) (h : ∀ p, p < 4 → IsSel (SP k p) w (P p)) : ¬ mF_StepMachineModel_areGood P (nI k) = 0 := by
  have g0 : ¬ mF_StepMachineModel_isRegister (nI k) 0 (P 0) = 0 := good_rl (p := 0) hk (by decide) (h 0 (by decide))
  have g1 : ¬ mF_StepMachineModel_isRegister (nI k) 1 (P 1) = 0 := good_rl (p := 1) hk (by decide) (h 1 (by decide))
  have g2 : ¬ mF_StepMachineModel_isRegister (nI k) 2 (P 2) = 0 := good_rl (p := 2) hk (by decide) (h 2 (by decide))
  rw [good_eq, if_pos (Or.inr g0), if_pos (Or.inr g1), if_pos (Or.inr g2), if_pos (Or.inr (good_imm hk (h 3 (by decide))))]
  decide
theorem ft_long {k : Nat} {w : Int32} (hk : k < 48) (h : MTf k w 0) : ∃ P, FT k w P := by
  obtain ⟨P, e, hP⟩ := (take_all (by omega) w (fun _ => 0)).1 h
  exact ⟨P, h, hP, good_long hk hP⟩
theorem low_long : ∀ k, k < 48 → rN k 0 = 1 ∧ rN k 1 = 1 := by decide +kernel
theorem isl_of {w : Int32} (h0 : w.toBitVec.getLsbD 0 = true) (h1 : w.toBitVec.getLsbD 1 = true) : ¬ mF_StepMachineModel_isLong w = 0 := by
  rw [mF_StepMachineModel_isLong, if_pos]
  · decide
  · refine sel_val (sel_and 3 (sel_self w)) fun i hi => ?_
    have h3 : ∀ i, i < 32 → (3 : Int32).toBitVec.getLsbD i = decide (i < 2) := by decide
    rw [h3 i hi]
    rcases (show i = 0 ∨ i = 1 ∨ 2 ≤ i by omega) with e | e | e
    · subst e; simp [gb, h0]
    · subst e; simp [gb, h1]
    · simp [show ¬ i < 2 by omega, gb_99]
theorem find_is {K : Nat} (hK : K < 48) {l : Int32} (hm : MTf K l 0) (part : Nat → Int32) : ∃ R, mF_StepMachineModel_find part l = (nI K, R) ∧ FT K l R := by
  have hb : bN K = 32 := if_pos hK
  have hl : ¬ mF_StepMachineModel_isLong l = 0 := by
    have g := low_long K hK
    refine isl_of ?_ ?_
    · rw [hm 0 (Nat.le_refl 0) (by omega) (by omega), g.1]; rfl
    · rw [hm 1 (by decide) (by omega) (by omega), g.2]; rfl
  rcases find_long hl part with ⟨k, R, h1, h2, h3⟩ | ⟨_, h2⟩
  · have := mt_one hK h1 hm h3.1
    subst this
    exact ⟨R, h2, h3⟩
  · obtain ⟨P, hP⟩ := ft_long hK hm
    exact absurd hP (h2 K hK P)
