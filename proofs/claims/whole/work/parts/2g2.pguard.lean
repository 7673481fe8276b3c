def Rseg (f g : Nat → Int32) : Prop := ∀ k, k < 8 → 0 ≤ (f k).toInt ∧ 0 ≤ (g k).toInt ∧ (f k).toInt + (g k).toInt ≤ 131072
def Rk (v m : Nat → Int32) : Prop := ∀ j, m j = (j_ushr (v (j / 32)) (nI (j % 32))) &&& 1
theorem lc_lt (a b : Int64) : lg_cmp a b < 0 ↔ a.toInt < b.toInt := (lg_cmp_lt a b).trans Int64.lt_iff_toInt_lt
theorem lc_ge (a b : Int64) : 0 ≤ lg_cmp a b ↔ b.toInt ≤ a.toInt := (lg_cmp_ge a b).trans Int64.le_iff_toInt_le
theorem nI_8le {k : Nat} (h : k < 8) : ¬ 8 ≤ nI k := fun q => by
  have := ti_le q
  rw [nI_toInt (by omega), e_8] at this
  omega
theorem ra_L {f g r : Nat → Int32} (hS : Rseg f g) {x : Int32} {X : Int64} (hx : X.toInt = x.toInt) (h0 : 0 ≤ x.toInt) : ∀ n k : Nat, n + k = 9 → cF_Guard_rightsAt_L2 f g r x n (nI k) = mF_StepMachineModel_rightsOf_L18 f g r X n (nI k) := by
  intro n
  induction n with
  | zero => intro k _; rfl
  | succ n ih =>
    intro k hk
    rw [cF_Guard_rightsAt_L2, mF_StepMachineModel_rightsOf_L18]
    by_cases h8 : k = 8
    · subst h8
      rw [if_pos (by decide), if_pos (by decide)]
    · rw [if_neg (nI_8le (by omega)), if_neg (nI_8le (by omega)), nI_clamp (by omega), nI_1, ih (k + 1) (by omega)]
      obtain ⟨s1, s2, s3⟩ := hS k (by omega)
      have hx2 := Int32.toInt_lt x
      have eX : lg_cmp X ((f k).toInt64) < 0 ↔ x < f k := by
        rw [lc_lt, li_i, hx, Int32.lt_iff_toInt_lt]
      by_cases c1 : x < f k
      · rw [if_pos c1, if_pos (eX.mpr c1)]
      · rw [if_neg c1, if_neg (fun q => c1 (eX.mp q))]
        have c1' := ob_nlt c1
        have eY : 0 ≤ lg_cmp X ((f k + g k).toInt64) ↔ g k ≤ x - f k := by
          rw [lc_ge, li_i, hx, ti_add (by omega) (by omega), Int32.le_iff_toInt_le, ti_sub (by omega) (by omega)]
          omega
        by_cases c2 : g k ≤ x - f k
        · rw [if_pos c2, if_pos (eY.mpr c2)]
        · rw [if_neg c2, if_neg (fun q => c2 (eY.mp q))]
theorem ra_out_L {f g r : Nat → Int32} (hS : Rseg f g) {x : Int32} (h : x.toInt < 0 ∨ 131072 ≤ x.toInt) : ∀ n k : Nat, n + k = 9 → cF_Guard_rightsAt_L2 f g r x n (nI k) = 0 := by
  intro n
  induction n with
  | zero => intro k _; rfl
  | succ n ih =>
    intro k hk
    rw [cF_Guard_rightsAt_L2]
    by_cases h8 : k = 8
    · subst h8
      rw [if_pos (by decide)]
    · rw [if_neg (nI_8le (by omega)), nI_clamp (by omega), nI_1, ih (k + 1) (by omega)]
      obtain ⟨s1, s2, s3⟩ := hS k (by omega)
      have hx2 := Int32.toInt_lt x
      by_cases c1 : x < f k
      · rw [if_pos c1]
      · have c1' := ob_nlt c1
        rw [if_neg c1, if_pos]
        rw [Int32.le_iff_toInt_le, ti_sub (by omega) (by omega)]
        omega
theorem ra_out {f g r : Nat → Int32} (hS : Rseg f g) {x : Int32} (h : x.toInt < 0 ∨ 131072 ≤ x.toInt) : cF_Guard_rightsAt f g r x = 0 := ra_out_L hS h 9 0 rfl
theorem ro_out {f g r : Nat → Int32} {X : Int64} (h : X.toInt < 0 ∨ 131072 ≤ X.toInt) : mF_StepMachineModel_rightsOf f g r X = 0 := by
  rw [mF_StepMachineModel_rightsOf]
  by_cases c : lg_cmp X 0 < 0
  · rw [if_pos c]
  · rw [if_neg c, if_neg]
    intro q
    rw [lc_lt, l_131072] at q
    rw [lc_lt, l_0] at c
    omega
theorem ra_eq {f g r : Nat → Int32} (hS : Rseg f g) {x : Int32} {X : Int64} (h1 : 0 ≤ x.toInt → X.toInt = x.toInt) (h2 : x.toInt < 0 → X.toInt < 0 ∨ 131072 ≤ X.toInt) : cF_Guard_rightsAt f g r x = mF_StepMachineModel_rightsOf f g r X := by
  by_cases c : 0 ≤ x.toInt ∧ x.toInt < 131072
  · have hX := h1 c.1
    rw [mF_StepMachineModel_rightsOf, if_neg (by rw [lc_lt, l_0]; omega), if_pos (by rw [lc_lt, l_131072]; omega)]
    exact ra_L hS hX c.1 9 0 rfl
  · rw [ra_out hS (by omega)]
    by_cases d : x.toInt < 0
    · rw [ro_out (h2 d)]
    · rw [ro_out (by have := h1 (by omega); omega)]
theorem bare_nn {x : Int32} (h : 0 ≤ x.toInt) : (mF_StepMachineModel_bare x).toInt = x.toInt := by
  rw [show (mF_StepMachineModel_bare x).toInt = (x.toBitVec.toNat : Int) from bare_toInt x]
  have := x.toBitVec.isLt
  rcases ti_nat x with h1 | h1 <;> omega
theorem bare_ng {x : Int32} (h : x.toInt < 0) : 2147483648 ≤ (mF_StepMachineModel_bare x).toInt := by
  rw [show (mF_StepMachineModel_bare x).toInt = (x.toBitVec.toNat : Int) from bare_toInt x]
  have := Int32.le_toInt x
  rcases ti_nat x with h1 | h1 <;> omega
theorem ra_bare {f g r : Nat → Int32} (hS : Rseg f g) (x : Int32) : cF_Guard_rightsAt f g r x = mF_StepMachineModel_rightsOf f g r (mF_StepMachineModel_bare x) := ra_eq hS (fun h => bare_nn h) (fun h => Or.inr (by have := bare_ng h; omega))
theorem ra_l {f g r : Nat → Int32} (hS : Rseg f g) (x : Int32) : cF_Guard_rightsAt f g r x = mF_StepMachineModel_rightsOf f g r x.toInt64 := ra_eq hS (fun _ => li_i x) (fun h => Or.inl (by rw [li_i]; exact h))
theorem bare_i32 (x : Int32) : (mF_StepMachineModel_bare x).toInt32 = x := by
  apply Int32.toBitVec_inj.mp
  rw [Int64.toBitVec_toInt32, show (mF_StepMachineModel_bare x).toBitVec = x.toBitVec.setWidth 64 from bare_bv x]
  apply BitVec.eq_of_getLsbD_eq
  intro i hi
  rw [BitVec.getLsbD_signExtend, BitVec.getLsbD_setWidth]
  simp [hi, show i < 64 by omega]
theorem fw_L {f g r : Nat → Int32} (hS : Rseg f g) {a W : Nat} (ha : a < 131072) (hW : W ≤ 8) {A : Int64} (hA : A.toInt = a) (z : Int32) : ∀ n k : Nat, n + k = W + 1 → (cF_Guard_firstWithout_L3 f g r z (nI a) (nI W) n (nI k) = -1 ∧ mF_StepMachineModel_without_L3 f g r A (nI W) z n (nI k) = -1) ∨ (∃ j, k ≤ j ∧ j < W ∧ cF_Guard_firstWithout_L3 f g r z (nI a) (nI W) n (nI k) = nI j ∧ mF_StepMachineModel_without_L3 f g r A (nI W) z n (nI k) = A + (nI j).toInt64) ∨ W < k := by
  intro n
  induction n with
  | zero => intro k hk; exact Or.inr (Or.inr (by omega))
  | succ n ih =>
    intro k hk
    rw [cF_Guard_firstWithout_L3, mF_StepMachineModel_without_L3]
    by_cases h : W ≤ k
    · have hkk : k = W := by omega
      subst hkk
      rw [if_pos (Int32.le_refl _), if_pos (Int32.le_refl _)]
      exact Or.inl ⟨rfl, rfl⟩
    · have nle : ¬ nI W ≤ nI k := fun q => h ((nI_leI (by omega) (by omega)).mp q)
      rw [if_neg nle, if_neg nle]
      have er : cF_Guard_rightsAt f g r (nI a + nI k) = mF_StepMachineModel_rightsOf f g r (A + (nI k).toInt64) := by
        have e1 : (nI a + nI k).toInt = a + k := by rw [nI_add, nI_toInt (by omega)]; omega
        have e2 : (A + (nI k).toInt64).toInt = a + k := by rw [li_add (by rw [li_i, nI_toInt (by omega)]; omega) (by rw [li_i, nI_toInt (by omega)]; omega), li_i, nI_toInt (by omega), hA]
        exact ra_eq hS (fun _ => by rw [e1, e2]) (fun q => by omega)
      rw [er]
      by_cases c : (mF_StepMachineModel_rightsOf f g r (A + (nI k).toInt64)) &&& z = 0
      · rw [if_pos c, if_pos c]
        exact Or.inr (Or.inl ⟨k, Nat.le_refl _, by omega, rfl, rfl⟩)
      · rw [if_neg c, if_neg c, nI_1]
        rcases ih (k + 1) (by omega) with q | ⟨j, q1, q2, q3, q4⟩ | q
        · exact Or.inl q
        · exact Or.inr (Or.inl ⟨j, by omega, q2, q3, q4⟩)
        · omega
theorem wo_alike {f g r : Nat → Int32} (hS : Rseg f g) (x : Int32) {W : Nat} (h1 : 0 < W) (hW : W ≤ 8) (z : Int32) : (cF_Guard_firstWithout f g r z x (nI W) = -1 ∧ lg_cmp (mF_StepMachineModel_without f g r (mF_StepMachineModel_bare x) (nI W) z) 0 < 0 ∧ 0 ≤ x.toInt ∧ x.toInt < 131072) ∨ (∃ j, j < W ∧ cF_Guard_firstWithout f g r z x (nI W) = nI j ∧ ¬ lg_cmp (mF_StepMachineModel_without f g r (mF_StepMachineModel_bare x) (nI W) z) 0 < 0 ∧ (mF_StepMachineModel_without f g r (mF_StepMachineModel_bare x) (nI W) z).toInt32 = x + nI j) := by
  have fc : (nI W).toNatClampNeg + 1 = W + 1 := by rw [nI_clamp (by omega)]
  have fm : ((nI W).toInt - (0 : Int32).toInt).toNat + 1 = W + 1 := by rw [nI_toInt (by omega), e_0]; omega
  rw [cF_Guard_firstWithout, mF_StepMachineModel_without, fc, fm]
  by_cases c : 0 ≤ x.toInt ∧ x.toInt < 131072
  · have ex := ti_nI c.1
    have hA : (mF_StepMachineModel_bare x).toInt = (x.toInt.toNat : Nat) := by rw [bare_nn c.1]; omega
    have k := fw_L (f := f) (g := g) (r := r) hS (a := x.toInt.toNat) (by omega) hW hA z (W + 1) 0 rfl
    rw [← ex] at k
    rcases k with ⟨k1, k2⟩ | ⟨j, _, k1, k2, k3⟩ | k
    · exact Or.inl ⟨k1, by rw [show mF_StepMachineModel_without_L3 f g r (mF_StepMachineModel_bare x) (nI W) z (W + 1) 0 = -1 from k2]; decide, c⟩
    · refine Or.inr ⟨j, k1, k2, ?_, ?_⟩
      · rw [show mF_StepMachineModel_without_L3 f g r (mF_StepMachineModel_bare x) (nI W) z (W + 1) 0 = _ from k3, lc_lt, l_0, li_add (by rw [li_i, nI_toInt (by omega)]; omega) (by rw [li_i, nI_toInt (by omega)]; omega), li_i, nI_toInt (by omega)]
        omega
      · rw [show mF_StepMachineModel_without_L3 f g r (mF_StepMachineModel_bare x) (nI W) z (W + 1) 0 = _ from k3, Int64.toInt32_add, bare_i32, Int32.toInt32_toInt64]
    · omega
  · refine Or.inr ⟨0, h1, ?_, ?_⟩
    · rw [cF_Guard_firstWithout_L3, if_neg (fun q => by have := ti_le q; rw [nI_toInt (by omega), e_0] at this; omega), show x + 0 = x from Int32.add_zero x, ra_out hS (by omega), if_pos (by exact Int32.zero_and)]
      rfl
    · have e : mF_StepMachineModel_without_L3 f g r (mF_StepMachineModel_bare x) (nI W) z (W + 1) 0 = mF_StepMachineModel_bare x := by
        rw [mF_StepMachineModel_without_L3, if_neg (fun q => by have := ti_le q; rw [nI_toInt (by omega), e_0] at this; omega), show mF_StepMachineModel_bare x + (0 : Int32).toInt64 = mF_StepMachineModel_bare x from Int64.add_zero _, ← ra_bare hS x, ra_out hS (by omega), if_pos (by exact Int32.zero_and)]
      rw [e]
      refine ⟨?_, ?_⟩
      · rw [lc_lt, l_0]
        have := bare_rng x
        omega
      · rw [bare_i32, show nI 0 = 0 from rfl, Int32.add_zero]
theorem im_alike {v m : Nat → Int32} (hk : Rk v m) {x : Int32} {X : Int64} (h1 : 0 ≤ x.toInt → X.toInt = x.toInt) (h2 : x.toInt < 0 → X.toInt < 0 ∨ 131072 ≤ X.toInt) : cF_Guard_isMarked v x = mF_StepMachineModel_isMarked m X := by
  rw [cF_Guard_isMarked, cF_Guard_mayBeMarked, mF_StepMachineModel_isMarked]
  by_cases c0 : x < 0
  · have a := ti_lt c0
    rw [e_0] at a
    rw [if_pos c0, if_pos (show (0 : Int32) = 0 from rfl)]
    rcases h2 a with b | b
    · rw [if_pos (show lg_cmp X 0 < 0 by rw [lc_lt, l_0]; exact b)]
    · rw [if_neg (show ¬ lg_cmp X 0 < 0 by rw [lc_lt, l_0]; omega), if_pos (show 0 ≤ lg_cmp X 131072 by rw [lc_ge, l_131072]; exact b)]
  · have a := ob_nlt c0
    rw [e_0] at a
    have hX := h1 a
    rw [if_neg c0, if_neg (show ¬ lg_cmp X 0 < 0 by rw [lc_lt, l_0]; omega)]
    by_cases c1 : 131072 ≤ x
    · have b := ti_le c1
      rw [e_131072] at b
      rw [if_pos c1, if_pos (show (0 : Int32) = 0 from rfl), if_pos (show 0 ≤ lg_cmp X 131072 by rw [lc_ge, l_131072]; omega)]
    · have b := ob_nle c1
      rw [e_131072] at b
      rw [if_neg c1, if_neg (show ¬ 0 ≤ lg_cmp X 131072 by rw [lc_ge, l_131072]; omega)]
      have hn : x = nI x.toInt.toNat := ti_nI a
      generalize hN : x.toInt.toNat = n at hn
      have e1 : x &&& 1 = nI (n % 2) := by rw [hn]; exact pk_andN (by omega) 1 (by decide)
      have ev : lg_cmp (X - X / 2 * 2) 0 = 0 ↔ n % 2 = 0 := by
        rw [lg_cmp_eq, i64_mod0 (by decide), show (2 : Int64).toInt = 2 from by decide]
        omega
      rw [e1]
      by_cases c2 : n % 2 = 0
      · rw [c2, if_pos (show nI 0 = 0 from rfl), if_neg (show ¬ (1 : Int32) = 0 by decide), if_pos (ev.mpr c2)]
        have eX : X.toInt32 = x := Int32.toInt_inj.mp (by rw [Int64.toInt_toInt32, hX]; exact Int.bmod_eq_of_le (by omega) (by omega))
        have i1 : (x >>> ((6 : Int32) &&& 31)).toNatClampNeg = n / 64 := by
          rw [hn, show nI n >>> ((6 : Int32) &&& 31) = nI (n / 64) from pk_shrN (by omega) _ 6 (by decide), nI_clamp (by omega)]
        have i2 : (x >>> ((1 : Int32) &&& 31)) &&& 31 = nI (n / 2 % 32) := by
          rw [hn, show nI n >>> ((1 : Int32) &&& 31) = nI (n / 2) from pk_shrN (by omega) _ 1 (by decide)]
          exact pk_andN (by omega) 5 (by decide)
        have i3 : (X.toInt32 / 2).toNatClampNeg = n / 2 := by
          rw [eX, hn, show nI n / 2 = nI (n / 2) from pk_div (by omega) (by decide) (by decide), nI_clamp (by omega)]
        rw [i1, i2, i3, hk (n / 2), show n / 2 / 32 = n / 64 by omega]
      · rw [show n % 2 = 1 by omega, if_neg (show ¬ nI 1 = 0 by decide), if_pos (show (0 : Int32) = 0 from rfl), if_neg (fun q => c2 (ev.mp q))]
theorem im_bare {v m : Nat → Int32} (hk : Rk v m) (x : Int32) : cF_Guard_isMarked v x = mF_StepMachineModel_isMarked m (mF_StepMachineModel_bare x) := im_alike hk (fun h => bare_nn h) (fun h => Or.inr (by have := bare_ng h; omega))
theorem im_l {v m : Nat → Int32} (hk : Rk v m) (x : Int32) : cF_Guard_isMarked v x = mF_StepMachineModel_isMarked m x.toInt64 := im_alike hk (fun _ => li_i x) (fun h => Or.inl (by rw [li_i]; exact h))
theorem un_alike {v m : Nat → Int32} (hk : Rk v m) (on pc : Int32) : cF_Core_beginsUnit pc on v = mF_StepMachineModel_isUnit on pc m := by
  rw [cF_Core_beginsUnit, mF_StepMachineModel_isUnit, im_bare hk]
theorem en_alike (st : Int32) : cF_Core_hasEnded st = mF_StepMachineModel_isEnd st := rfl
theorem be_alike (x y : Int32) : cF_Arithmetic_isBelow x y = (if 0 ≤ lg_cmp (mF_StepMachineModel_bare x) (mF_StepMachineModel_bare y) then 0 else 1) := rfl
theorem ho_alike {k : Int32} (x y : Int32) : cF_Arithmetic_holds k x y = mF_StepMachineModel_branches k x y := by
  rw [cF_Arithmetic_holds, mF_StepMachineModel_branches, be_alike]
  have key : (if (if 0 ≤ lg_cmp (mF_StepMachineModel_bare x) (mF_StepMachineModel_bare y) then (0 : Int32) else 1) = 0 then (1 : Int32) else 0) = (if lg_cmp (mF_StepMachineModel_bare x) (mF_StepMachineModel_bare y) < 0 then 0 else 1) := by
    by_cases c : 0 ≤ lg_cmp (mF_StepMachineModel_bare x) (mF_StepMachineModel_bare y)
    · rw [if_pos c, if_pos rfl, if_neg (fun q => by rw [lc_lt] at q; rw [lc_ge] at c; omega)]
    · rw [if_neg c, if_neg (by decide), if_pos (by rw [lc_lt]; rw [lc_ge] at c; omega)]
  rw [key]
theorem d64 (x y : Int32) : (x.toInt64 / y.toInt64).toInt32 = x / y := by
  apply Int32.toInt_inj.mp
  rw [Int64.toInt_toInt32, Int64.toInt_div, Int32.toInt_div, li_i, li_i]
  exact Int.bmod_bmod_of_dvd (by decide)
theorem dm1 (x : Int32) : x / (-1) = -x := by
  apply Int32.toInt_inj.mp
  rw [Int32.toInt_div, e_m1, Int.tdiv_neg, Int.tdiv_one, Int32.toInt_neg]
theorem r64 (x y : Int32) : (x.toInt64 - x.toInt64 / y.toInt64 * y.toInt64).toInt32 = x - x / y * y := by
  rw [Int64.toInt32_sub, Int64.toInt32_mul, d64, Int32.toInt32_toInt64, Int32.toInt32_toInt64]
theorem z64 (y : Int32) : lg_cmp y.toInt64 0 = 0 ↔ y = 0 := by
  rw [lg_cmp_eq, ← Int64.toInt_inj, li_i, l_0, ← Int32.toInt_inj, e_0]
theorem zb64 (y : Int32) : lg_cmp (y.toInt64 &&& 4294967295) 0 = 0 ↔ y = 0 := by
  rw [lg_cmp_eq]
  constructor
  · intro h
    by_cases c : y = 0
    · exact c
    · exact absurd h (bare_ne0 c)
  · intro h
    rw [h]
    decide
