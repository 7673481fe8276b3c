theorem lc_gt (a b : Int64) : 0 < lg_cmp a b ↔ b.toInt < a.toInt := (lg_cmp_gt a b).trans Int64.lt_iff_toInt_lt
theorem e_i7 : (7 : Int32).toInt = 7 := by decide
def segG (x0 x1 x2 x3 : Int32) : Bool := decide (0 ≤ x0.toInt ∧ x0.toInt < 8 ∧ 0 ≤ x1.toInt ∧ 0 ≤ x2.toInt ∧ x1.toInt + x2.toInt ≤ 131072 ∧ 0 ≤ x3.toInt ∧ x3.toInt ≤ 7)
theorem seg_c (f g r : Nat → Int32) (ct x0 x1 x2 x3 : Int32) : cF_StepMachine_segment f g r ct x0 x1 x2 x3 = if segG x0 x1 x2 x3 = true then (1, upd f x0.toNatClampNeg x1, upd g x0.toNatClampNeg x2, upd r x0.toNatClampNeg x3, 0) else (0, f, g, r, ct) := by
  have key : cF_Guard_putSegment f g r x0 x1 x2 x3 = if segG x0 x1 x2 x3 = true then (1, upd f x0.toNatClampNeg x1, upd g x0.toNatClampNeg x2, upd r x0.toNatClampNeg x3) else (0, f, g, r) := by
    rw [cF_Guard_putSegment]
    simp only [Int32.lt_iff_toInt_lt, Int32.le_iff_toInt_le, e_0, e_8, e_i7, e_131072]
    by_cases h : segG x0 x1 x2 x3 = true
    · obtain ⟨h1, h2, h3, h4, h5, h6, h7⟩ := of_decide_eq_true h
      have e : (131072 - x2).toInt = 131072 - x2.toInt := by rw [ti_sub (by rw [e_131072]; omega) (by rw [e_131072]; omega), e_131072]
      rw [if_pos h, if_neg (by omega), if_neg (by omega), if_neg (by omega), if_pos (by omega), if_neg (by omega), if_neg (by omega), if_neg (by omega), if_pos (by omega)]
    · rw [if_neg h]
      refine ite_h (P := fun q => q = (0, f, g, r)) (fun _ => rfl) (fun c1 => ?_)
      refine ite_h (P := fun q => q = (0, f, g, r)) (fun _ => rfl) (fun c2 => ?_)
      refine ite_h (P := fun q => q = (0, f, g, r)) (fun _ => rfl) (fun c3 => ?_)
      refine ite_h (P := fun q => q = (0, f, g, r)) (fun c4 => ?_) (fun _ => rfl)
      refine ite_h (P := fun q => q = (0, f, g, r)) (fun _ => rfl) (fun c5 => ?_)
      refine ite_h (P := fun q => q = (0, f, g, r)) (fun _ => rfl) (fun c6 => ?_)
      refine ite_h (P := fun q => q = (0, f, g, r)) (fun _ => rfl) (fun c7 => ?_)
      refine ite_h (P := fun q => q = (0, f, g, r)) (fun c8 => ?_) (fun _ => rfl)
      have e : (131072 - x2).toInt = 131072 - x2.toInt := by rw [ti_sub (by rw [e_131072]; omega) (by rw [e_131072]; omega), e_131072]
      exact absurd (decide_eq_true ⟨by omega, by omega, by omega, by omega, by omega, by omega, by omega⟩) h
  rw [cF_StepMachine_segment, key]
  by_cases h : segG x0 x1 x2 x3 = true
  · rw [if_pos h, if_pos h]; rfl
  · rw [if_neg h, if_neg h]; rfl
theorem seg_m (f g r : Nat → Int32) (kc x0 x1 x2 x3 : Int32) : mF_StepMachineModel_segment kc f g r x0 x1 x2 x3 = if segG x0 x1 x2 x3 = true then (1, upd f x0.toNatClampNeg x1, upd g x0.toNatClampNeg x2, upd r x0.toNatClampNeg x3, 0) else (0, f, g, r, kc) := by
  rw [mF_StepMachineModel_segment]
  have ee : (x1.toInt64 + x2.toInt64).toInt = x1.toInt + x2.toInt := by
    have a1 := Int32.toInt_lt x1
    have a2 := Int32.toInt_lt x2
    have b1 := Int32.le_toInt x1
    have b2 := Int32.le_toInt x2
    rw [li_add (by rw [li_i, li_i]; omega) (by rw [li_i, li_i]; omega), li_i, li_i]
  have eg : (0 < lg_cmp (x1.toInt64 + x2.toInt64) 131072) ↔ (131072 < x1.toInt + x2.toInt) := by rw [lc_gt, ee, l_131072]
  simp only [eg]
  simp only [Int32.lt_iff_toInt_lt, Int32.le_iff_toInt_le, e_0, e_i7]
  by_cases h : segG x0 x1 x2 x3 = true
  · obtain ⟨h1, h2, h3, h4, h5, h6, h7⟩ := of_decide_eq_true h
    rw [if_pos h, if_neg (by omega), if_neg (by omega), if_neg (by omega), if_neg (by omega), if_neg (by omega), if_neg (by omega), if_pos (by omega)]
    rfl
  · rw [if_neg h]
    refine ite_h (P := fun q => q = (0, f, g, r, kc)) (fun _ => rfl) (fun c1 => ?_)
    refine ite_h (P := fun q => q = (0, f, g, r, kc)) (fun _ => rfl) (fun c2 => ?_)
    refine ite_h (P := fun q => q = (0, f, g, r, kc)) (fun _ => rfl) (fun c3 => ?_)
    refine ite_h (P := fun q => q = (0, f, g, r, kc)) (fun _ => rfl) (fun c4 => ?_)
    refine ite_h (P := fun q => q = (0, f, g, r, kc)) (fun _ => rfl) (fun c5 => ?_)
    refine ite_h (P := fun q => q = (0, f, g, r, kc)) (fun _ => rfl) (fun c6 => ?_)
    refine ite_h (P := fun q => q = (0, f, g, r, kc)) (fun c7 => ?_) (fun _ => rfl)
    exact absurd (decide_eq_true ⟨by omega, by omega, by omega, by omega, by omega, by omega, by omega⟩) h
/-- what stays of the trail behind a call that answers: as it was, or forgotten -/
def Fg (ok ct ct' : Int32) : Prop := (ok = 0 ∧ ct' = ct) ∨ ct' = 0
theorem seg_alike {f g r : Nat → Int32} (hS : Rseg f g) (ct x0 x1 x2 x3 : Int32) : ∃ (ok ct' : Int32) (f' g' r' : Nat → Int32), cF_StepMachine_segment f g r ct x0 x1 x2 x3 = (ok, f', g', r', ct') ∧ mF_StepMachineModel_segment ct f g r x0 x1 x2 x3 = (ok, f', g', r', ct') ∧ Rseg f' g' ∧ (ct' = ct ∨ ct' = 0) := by
  rw [seg_c, seg_m]
  by_cases h : segG x0 x1 x2 x3 = true
  · rw [if_pos h]
    refine ⟨_, _, _, _, _, rfl, rfl, ?_, Or.inr rfl⟩
    obtain ⟨h1, h2, h3, h4, h5, h6, h7⟩ := of_decide_eq_true h
    intro k hk
    by_cases e : k = x0.toNatClampNeg
    · rw [e, pk_us, pk_us]
      exact ⟨h3, h4, h5⟩
    · rw [pk_un e, pk_un e]
      exact hS k hk
  · rw [if_neg h]
    exact ⟨_, _, _, _, _, rfl, rfl, hS, Or.inl rfl⟩
theorem b_one (v : Int32) {t : Nat} (ht : t < 32) : (j_ushr v (nI t)) &&& 1 = if v.toBitVec.getLsbD t then 1 else 0 := by
  have hb : ((nI t).toBitVec &&& 31#32).toNat % 32 = t := (by decide +kernel : ∀ t, t < 32 → ((nI t).toBitVec &&& 31#32).toNat % 32 = t) t ht
  have h1 : ∀ i, i < 32 → (1 : Int32).toBitVec.getLsbD i = decide (i = 0) := by decide +kernel
  have h0 : ∀ i, i < 32 → (0 : Int32).toBitVec.getLsbD i = false := by decide +kernel
  apply bx_ext
  intro i hi
  rw [bx_and, bx_ushr t hb, h1 i hi]
  by_cases e : i = 0
  · subst e
    cases hv : v.toBitVec.getLsbD t
    · simp [hv, h0]
    · simp [hv, h1]
  · cases hv : v.toBitVec.getLsbD t
    · simp [e, h0 i hi]
    · simp [e, h1 i hi]
theorem bx_xor (x y : Int32) (i : Nat) : (x ^^^ y).toBitVec.getLsbD i = (x.toBitVec.getLsbD i ^^ y.toBitVec.getLsbD i) := by rw [Int32.toBitVec_xor, BitVec.getLsbD_xor]
theorem one_hot {s : Nat} (hs : s < 32) {t : Nat} (ht : t < 32) : ((1 : Int32) <<< (nI s &&& 31)).toBitVec.getLsbD t = decide (t = s) := by
  have hb : ((nI s &&& 31).toBitVec.smod 32).toNat = s := (by decide +kernel : ∀ s, s < 32 → ((nI s &&& 31).toBitVec.smod 32).toNat = s) s hs
  have h1 : ∀ i, i < 32 → (1 : Int32).toBitVec.getLsbD i = decide (i = 0) := by decide +kernel
  rw [bx_shl s hb ht]
  by_cases h : t < s
  · simp [h, show t ≠ s by omega]
  · rw [h1 (t - s) (by omega)]
    by_cases e : t = s
    · subst e; simp
    · simp [h, e, show ¬ t - s = 0 by omega]
theorem mo_bit {t : Nat} (ht : t < 32) : (-1 : Int32).toBitVec.getLsbD t = true := (by decide +kernel : ∀ t, t < 32 → (-1 : Int32).toBitVec.getLsbD t = true) t ht
theorem mark_alike {vm mm : Nat → Int32} (hk : Rk vm mm) (ct x0 x1 : Int32) (hb : x1 = 0 ∨ x1 = 1) : ∃ (ok ct' : Int32) (vm' mm' : Nat → Int32), cF_StepMachine_mark vm ct x0 x1 = (ok, vm', ct') ∧ mF_StepMachineModel_mark ct mm x0 x1 = (ok, mm', ct') ∧ Rk vm' mm' ∧ (ct' = ct ∨ ct' = 0) := by
  rw [cF_StepMachine_mark, cF_Guard_putMark, cF_Guard_mayBeMarked, mF_StepMachineModel_mark]
  by_cases c0 : x0 < 0
  · rw [if_pos c0, if_pos c0, if_pos rfl]
    exact ⟨0, ct, vm, mm, rfl, rfl, hk, Or.inl rfl⟩
  · rw [if_neg c0, if_neg c0]
    by_cases c1 : 131072 ≤ x0
    · rw [if_pos c1, if_pos c1, if_pos rfl]
      exact ⟨0, ct, vm, mm, rfl, rfl, hk, Or.inl rfl⟩
    · rw [if_neg c1, if_neg c1]
      have a := ob_nlt c0
      rw [e_0] at a
      have b := ob_nle c1
      rw [e_131072] at b
      have hn := ti_nI a
      generalize hN : x0.toInt.toNat = n at hn
      have hn2 : n < 131072 := by omega
      subst hn
      rw [show nI n &&& 1 = nI (n % 2) from pk_andN (by omega) 1 (by decide), show nI n - nI n / 2 * 2 = nI (n % 2) from pk_rem (d := 2) (by omega) (by decide) (by decide)]
      by_cases c2 : n % 2 = 0
      · rw [c2, if_pos (show nI 0 = 0 from rfl), if_neg (show ¬ (1 : Int32) = 0 by decide), if_pos (show nI 0 = 0 from rfl)]
        have i1 : (nI n >>> ((6 : Int32) &&& 31)).toNatClampNeg = n / 64 := by
          rw [show nI n >>> ((6 : Int32) &&& 31) = nI (n / 64) from pk_shrN (by omega) _ 6 (by decide), nI_clamp (by omega)]
        have i2 : (nI n >>> ((1 : Int32) &&& 31)) &&& 31 = nI (n / 2 % 32) := by
          rw [show nI n >>> ((1 : Int32) &&& 31) = nI (n / 2) from pk_shrN (by omega) _ 1 (by decide)]
          exact pk_andN (by omega) 5 (by decide)
        have i3 : (nI n / 2).toNatClampNeg = n / 2 := by
          rw [show nI n / 2 = nI (n / 2) from pk_div (by omega) (by decide) (by decide), nI_clamp (by omega)]
        rw [i1, i2, mF_StepMachineModel_mark_1, i3]
        have hs : n / 2 % 32 < 32 := Nat.mod_lt _ (by decide)
        rcases hb with hb | hb <;> subst hb
        · rw [if_pos rfl]
          refine ⟨1, 0, upd vm (n / 64) (vm (n / 64) &&& (((1 : Int32) <<< (nI (n / 2 % 32) &&& 31)) ^^^ (-1))), upd mm (n / 2) 0, rfl, rfl, ?_, Or.inr rfl⟩
          intro j
          have hj := Nat.mod_lt j (show 0 < 32 by decide)
          rw [b_one _ hj]
          by_cases e : j = n / 2
          · subst e
            rw [pk_us, show n / 2 / 32 = n / 64 by omega, pk_us, bx_and, bx_xor, one_hot hs hs, mo_bit hs]
            simp
          · rw [pk_un e, hk j, b_one _ hj]
            by_cases e2 : j / 32 = n / 64
            · rw [e2, pk_us, bx_and, bx_xor, one_hot hs hj, mo_bit hj, decide_eq_false (show ¬ j % 32 = n / 2 % 32 by omega)]
              simp
            · rw [pk_un e2]
        · rw [if_neg (show ¬ (1 : Int32) = 0 by decide)]
          refine ⟨1, 0, upd vm (n / 64) ((vm (n / 64) &&& (((1 : Int32) <<< (nI (n / 2 % 32) &&& 31)) ^^^ (-1))) ||| ((1 : Int32) <<< (nI (n / 2 % 32) &&& 31))), upd mm (n / 2) 1, rfl, rfl, ?_, Or.inr rfl⟩
          intro j
          have hj := Nat.mod_lt j (show 0 < 32 by decide)
          rw [b_one _ hj]
          by_cases e : j = n / 2
          · subst e
            rw [pk_us, show n / 2 / 32 = n / 64 by omega, pk_us, bx_or, bx_and, bx_xor, one_hot hs hs, mo_bit hs]
            simp
          · rw [pk_un e, hk j, b_one _ hj]
            by_cases e2 : j / 32 = n / 64
            · rw [e2, pk_us, bx_or, bx_and, bx_xor, one_hot hs hj, mo_bit hj, decide_eq_false (show ¬ j % 32 = n / 2 % 32 by omega)]
              simp
            · rw [pk_un e2]
      · rw [show n % 2 = 1 by omega, if_neg (show ¬ nI 1 = 0 by decide), if_pos (show (0 : Int32) = 0 from rfl), if_neg (show ¬ nI 1 = 0 by decide)]
        exact ⟨0, ct, vm, mm, rfl, rfl, hk, Or.inl rfl⟩
theorem marking_alike (x0 : Int32) : cF_StepMachine_marking x0 = (x0, 0) ∧ mF_StepMachineModel_marking x0 = (x0, 0) := ⟨rfl, rfl⟩
theorem lby_gen (x : Int64) (s : Nat) (hs : s + 8 ≤ 64) (y : Int32) (h1 : ((y.toInt64 &&& 63).toBitVec.smod 64).toNat = s) (h2 : (y.toInt64.toUInt64 &&& Int64.toUInt64 63).toNat % 64 = s) : ((j_lshr x y) &&& 255).toInt32 = (j_lushr x y).toInt32 &&& 255 := by
  apply bx_ext
  intro i hi
  have a : ((j_lshr x y) &&& 255).toInt32.toBitVec = (x.toBitVec.sshiftRight s &&& 255#64).signExtend 32 := by
    rw [Int64.toBitVec_toInt32, Int64.toBitVec_and, j_lshr, Int64.toBitVec_shiftRight, BitVec.sshiftRight_eq', h1]
    rfl
  have b : (j_lushr x y).toInt32.toBitVec = (x.toBitVec >>> s).signExtend 32 := by
    rw [Int64.toBitVec_toInt32]
    show ((x.toUInt64 >>> (y.toInt64.toUInt64 &&& Int64.toUInt64 63)).toBitVec).signExtend 32 = _
    rw [UInt64.toBitVec_shiftRight]
    show ((x.toBitVec >>> ((y.toInt64.toUInt64 &&& Int64.toUInt64 63).toBitVec % 64#64).toNat)).signExtend 32 = _
    rw [BitVec.toNat_umod]
    show ((x.toBitVec >>> ((y.toInt64.toUInt64 &&& Int64.toUInt64 63).toNat % 64))).signExtend 32 = _
    rw [h2]
  have c : ∀ i, i < 32 → (255 : Int32).toBitVec.getLsbD i = decide (i < 8) := by decide +kernel
  have d : ∀ i, i < 32 → (255#64).getLsbD i = decide (i < 8) := by decide +kernel
  rw [bx_and, a, b, c i hi, BitVec.getLsbD_signExtend, BitVec.getLsbD_signExtend, if_pos (show i < 64 by omega), if_pos (show i < 64 by omega), BitVec.getLsbD_and, d i hi, BitVec.getLsbD_sshiftRight, BitVec.getLsbD_ushiftRight]
  by_cases h : i < 8
  · simp [h, hi, show s + i < 64 by omega, show ¬ 64 ≤ i by omega]
  · simp [h]
theorem lby_0 (x : Int64) : ((j_lshr x ((56 : Int32) - (8 * nI 0))) &&& 255).toInt32 = cF_StepMachine_byteOf x (nI 0) := lby_gen x 56 (by decide) _ (by decide) (by decide)
theorem lby_1 (x : Int64) : ((j_lshr x ((56 : Int32) - (8 * nI 1))) &&& 255).toInt32 = cF_StepMachine_byteOf x (nI 1) := lby_gen x 48 (by decide) _ (by decide) (by decide)
theorem lby_2 (x : Int64) : ((j_lshr x ((56 : Int32) - (8 * nI 2))) &&& 255).toInt32 = cF_StepMachine_byteOf x (nI 2) := lby_gen x 40 (by decide) _ (by decide) (by decide)
theorem lby_3 (x : Int64) : ((j_lshr x ((56 : Int32) - (8 * nI 3))) &&& 255).toInt32 = cF_StepMachine_byteOf x (nI 3) := lby_gen x 32 (by decide) _ (by decide) (by decide)
theorem lby_4 (x : Int64) : ((j_lshr x ((56 : Int32) - (8 * nI 4))) &&& 255).toInt32 = cF_StepMachine_byteOf x (nI 4) := lby_gen x 24 (by decide) _ (by decide) (by decide)
theorem lby_5 (x : Int64) : ((j_lshr x ((56 : Int32) - (8 * nI 5))) &&& 255).toInt32 = cF_StepMachine_byteOf x (nI 5) := lby_gen x 16 (by decide) _ (by decide) (by decide)
theorem lby_6 (x : Int64) : ((j_lshr x ((56 : Int32) - (8 * nI 6))) &&& 255).toInt32 = cF_StepMachine_byteOf x (nI 6) := lby_gen x 8 (by decide) _ (by decide) (by decide)
theorem lby_7 (x : Int64) : ((j_lshr x ((56 : Int32) - (8 * nI 7))) &&& 255).toInt32 = cF_StepMachine_byteOf x (nI 7) := lby_gen x 0 (by decide) _ (by decide) (by decide)
theorem lby_all (x : Int64) {k : Nat} (h : k < 8) : ((j_lshr x ((56 : Int32) - (8 * nI k))) &&& 255).toInt32 = cF_StepMachine_byteOf x (nI k) := by
  rcases (show k = 0 ∨ k = 1 ∨ k = 2 ∨ k = 3 ∨ k = 4 ∨ k = 5 ∨ k = 6 ∨ k = 7 by omega) with e | e | e | e | e | e | e | e <;> subst e
  · exact lby_0 x
  · exact lby_1 x
  · exact lby_2 x
  · exact lby_3 x
  · exact lby_4 x
  · exact lby_5 x
  · exact lby_6 x
  · exact lby_7 x
theorem by255 (x : Int64) (k : Int32) : ((cF_StepMachine_byteOf x k) >>> ((0 : Int32) &&& 31)) &&& 255 = cF_StepMachine_byteOf x k := by
  unfold cF_StepMachine_byteOf
  generalize (j_lushr x (56 - (8 * k))).toInt32 = w
  exact sel_eq (sel_and 255 (sel_sar 0 (by decide) (sel_and 255 (sel_self w)))) (sel_and 255 (sel_self w)) (by decide +kernel)
theorem poke_L {x2 : Int64} {a W : Nat} (ha : a + W ≤ 131072) (hW : W ≤ 8) (ct : Int32) : ∀ (n k : Nat) (c m : Nat → Int32), n + k = W + 1 → k ≤ W → Rm c m → ∃ c' m' : Nat → Int32, cF_StepMachine_poke_L28 ct (nI a) (nI W) x2 n (nI k) c = (1, c', 0) ∧ (mF_StepMachineModel_poke_L28 (nI a) (nI W) x2 n (nI k) m).2 = m' ∧ Rm c' m' := by
  intro n
  induction n with
  | zero => intro k c m h1 h2; omega
  | succ n ih =>
    intro k c m h1 h2 hm
    rw [cF_StepMachine_poke_L28, mF_StepMachineModel_poke_L28]
    by_cases h : k = W
    · subst h
      rw [if_pos (Int32.le_refl _), if_pos (Int32.le_refl _)]
      exact ⟨c, m, rfl, rfl, hm⟩
    · have nle : ¬ nI W ≤ nI k := fun q => by have := (nI_leI (by omega) (by omega)).mp q; omega
      rw [if_neg nle, if_neg nle, cF_StepMachine_poke_2, nI_1, ix_add (by omega), nI_add, lby_all x2 (by omega)]
      have hp := put_1 hm (cF_StepMachine_byteOf x2 (nI k)) (a := a + k) (by omega)
      rw [by255, Nat.add_zero] at hp
      exact ih (k + 1) _ _ (by omega) (by omega) hp
theorem poke_alike {c m : Nat → Int32} (hm : Rm c m) (ct x0 x1 : Int32) (x2 : Int64) : ∃ (ok ct' : Int32) (c' m' : Nat → Int32), cF_StepMachine_poke c ct x0 x1 x2 = (ok, c', ct') ∧ mF_StepMachineModel_poke ct m x0 x1 x2 = (ok, m', ct') ∧ Rm c' m' ∧ ((ct' = ct ∧ c' = c ∧ m' = m) ∨ ct' = 0) := by
  rw [cF_StepMachine_poke, mF_StepMachineModel_poke]
  by_cases c1 : x1 < 1
  · rw [if_pos c1, if_pos c1]
    exact ⟨0, ct, c, m, rfl, rfl, hm, Or.inl ⟨rfl, rfl, rfl⟩⟩
  · rw [if_neg c1, if_neg c1]
    by_cases c2 : 8 < x1
    · rw [if_pos c2, if_pos c2]
      exact ⟨0, ct, c, m, rfl, rfl, hm, Or.inl ⟨rfl, rfl, rfl⟩⟩
    · rw [if_neg c2, if_neg c2]
      by_cases c3 : x0 < 0
      · rw [if_pos c3, if_pos c3]
        exact ⟨0, ct, c, m, rfl, rfl, hm, Or.inl ⟨rfl, rfl, rfl⟩⟩
      · rw [if_neg c3, if_neg c3]
        by_cases c4 : x0 ≤ 131072 - x1
        · rw [if_pos c4, if_pos c4]
          have a1 := ob_nlt c1
          rw [e_1] at a1
          have a2 := ob_nlt c2
          rw [e_8] at a2
          have a3 := ob_nlt c3
          rw [e_0] at a3
          have a4 := ti_le c4
          rw [ti_sub (by rw [e_131072]; omega) (by rw [e_131072]; omega), e_131072] at a4
          have h0 := ti_nI a3
          have h1 := ti_nI (show 0 ≤ x1.toInt by omega)
          generalize hA : x0.toInt.toNat = a at h0
          generalize hW : x1.toInt.toNat = W at h1
          have hW2 : W ≤ 8 := by omega
          have hA2 : a + W ≤ 131072 := by omega
          subst h0 h1
          have f1 : (nI W).toNatClampNeg + 1 = W + 1 := by rw [nI_clamp (by omega)]
          have f2 : ((nI W).toInt - (0 : Int32).toInt).toNat + 1 = W + 1 := by rw [nI_toInt (by omega), e_0]; omega
          rw [f1, f2]
          obtain ⟨c', m', e1, e2, hm'⟩ := poke_L (x2 := x2) hA2 hW2 ct (W + 1) 0 c m rfl (by omega) hm
          refine ⟨1, 0, c', m', e1, ?_, hm', Or.inr rfl⟩
          rw [mF_StepMachineModel_poke_1, mF_StepMachineModel_poke_2]
          show (1, (mF_StepMachineModel_poke_L28 (nI a) (nI W) x2 (W + 1) (nI 0) m).2, _) = _
          rw [e2]
          rfl
        · rw [if_neg c4, if_neg c4]
          exact ⟨0, ct, c, m, rfl, rfl, hm, Or.inl ⟨rfl, rfl, rfl⟩⟩
theorem peek_alike {c m : Nat → Int32} (hm : Rm c m) (x0 : Int32) : cF_StepMachine_peek c x0 = mF_StepMachineModel_peek m x0 := by
  rw [cF_StepMachine_peek, mF_StepMachineModel_peek]
  by_cases c0 : x0 < 0
  · rw [if_pos (has_out (Or.inl (by have := ti_lt c0; rw [e_0] at this; exact this))), if_pos c0]
  · rw [if_neg c0]
    by_cases c1 : 131072 ≤ x0
    · rw [if_pos (has_out (Or.inr (by have := ti_le c1; rw [e_131072] at this; exact this))), if_pos c1]
    · have a := ob_nlt c0
      rw [e_0] at a
      have b := ob_nle c1
      rw [e_131072] at b
      rw [if_neg c1]
      have hn := ti_nI a
      generalize hN : x0.toInt.toNat = n at hn
      have hn2 : n < 131072 := by omega
      subst hn
      rw [if_neg (has_of hn2), num_b hm hn2, nI_clamp (by omega)]
theorem get_alike (pc : Int32) (reg : Nat → Int32) (x0 : Int32) : cF_StepMachine_get pc reg x0 = mF_StepMachineModel_get pc reg x0 := rfl
theorem and1 (x : Int32) : x &&& 1 = 0 ∨ x &&& 1 = 1 := by
  rw [show x &&& 1 = nI (x.toBitVec.toNat % 2) from pk_and x 1 (by decide)]
  rcases (show x.toBitVec.toNat % 2 = 0 ∨ x.toBitVec.toNat % 2 = 1 by omega) with h | h <;> rw [h]
  · exact Or.inl rfl
  · exact Or.inr rfl
theorem set_alike {reg : Nat → Int32} (hr : reg 0 = 0) {pc : Int32} (hpc : pc &&& 1 = 0) (st cu ct x0 x1 : Int32) : ∃ (ok pc' st' cu' ct' : Int32) (reg' : Nat → Int32), cF_StepMachine_set pc st cu reg ct x0 x1 = (ok, pc', st', cu', reg', ct') ∧ mF_StepMachineModel_set pc st cu ct reg x0 x1 = (ok, reg', pc', st', cu', ct') ∧ reg' 0 = 0 ∧ pc' &&& 1 = 0 ∧ ((ct' = ct ∧ reg' = reg) ∨ ct' = 0) := by
  rw [cF_StepMachine_set, mF_StepMachineModel_set]
  have e33 := e_33
  have e32 := e_32
  have e1 := e_1
  by_cases c33 : x0 = 33
  · subst c33
    rw [if_pos rfl, if_neg (show ¬ (33 : Int32) < 1 by decide), if_neg (show ¬ (33 : Int32) < 33 by decide), if_neg (show ¬ (33 : Int32) = 32 by decide), if_pos (show (32 : Int32) ≤ 33 by decide), if_pos rfl]
    exact ⟨1, pc, 0, 0, 0, reg, rfl, rfl, hr, hpc, Or.inr rfl⟩
  · rw [if_neg c33]
    by_cases c32 : x0 = 32
    · subst c32
      rw [if_pos rfl, if_neg (show ¬ (32 : Int32) < 1 by decide), if_neg (show ¬ (33 : Int32) < 32 by decide), if_pos rfl, cF_Core_putPc]
      rcases and1 x1 with h | h
      · rw [if_pos h, if_neg (by rw [h]; decide)]
        exact ⟨1, x1, st, cu, 0, reg, rfl, rfl, hr, h, Or.inr rfl⟩
      · rw [if_neg (by rw [h]; decide), if_pos h]
        exact ⟨0, pc, st, cu, ct, reg, rfl, rfl, hr, hpc, Or.inl ⟨rfl, rfl⟩⟩
    · rw [if_neg c32, cF_Core_putRegister]
      by_cases c1 : x0 < 1
      · rw [if_pos c1, if_pos c1]
        exact ⟨0, pc, st, cu, ct, reg, rfl, rfl, hr, hpc, Or.inl ⟨rfl, rfl⟩⟩
      · rw [if_neg c1, if_neg c1]
        have a := ob_nlt c1
        rw [e_1] at a
        by_cases c2 : x0 < 32
        · have b := ti_lt c2
          rw [e_32] at b
          rw [if_pos c2, if_neg (fun q => by have := ti_lt q; rw [e_33] at this; omega), if_neg c32, if_neg (fun q => by have := ti_le q; rw [e_32] at this; omega), if_neg c33]
          refine ⟨1, pc, st, cu, 0, upd reg x0.toNatClampNeg x1, rfl, rfl, ?_, hpc, Or.inr rfl⟩
          have hn := ti_nI (show 0 ≤ x0.toInt by omega)
          rw [hn, nI_clamp (by omega), pk_un (by omega), hr]
        · have b := ob_nlt c2
          rw [e_32] at b
          have hne : x0.toInt ≠ 32 := fun q => c32 (Int32.toInt_inj.mp (by rw [e_32]; exact q))
          have hne2 : x0.toInt ≠ 33 := fun q => c33 (Int32.toInt_inj.mp (by rw [e_33]; exact q))
          rw [if_neg c2, if_pos (Int32.lt_iff_toInt_lt.mpr (by rw [e_33]; omega))]
          exact ⟨0, pc, st, cu, ct, reg, rfl, rfl, hr, hpc, Or.inl ⟨rfl, rfl⟩⟩
theorem byte_id (x : Int64) (k : Int32) : (cF_StepMachine_byteOf x k) &&& 255 = cF_StepMachine_byteOf x k := by
  unfold cF_StepMachine_byteOf
  rw [Int32.and_assoc, show ((255 : Int32) &&& 255) = 255 by decide]
theorem input_L {x1 : Int64} {W : Nat} (hW : W ≤ 8) (ct : Int32) : ∀ (n k G : Nat) (vi mi : Nat → Int32), n + k = W + 1 → k ≤ W → G + (W - k) ≤ 1000 → Rb vi mi → ∃ (vi' mi' : Nat → Int32) (G' : Nat), G' ≤ 1000 ∧ cF_StepMachine_input_L27 ct (nI W) x1 n (nI k) vi (nI G) = (1, vi', nI G', 0) ∧ (mF_StepMachineModel_input_L28 (nI W) x1 n (nI k) mi (nI G)).2 = (mi', nI G') ∧ Rb vi' mi' := by
  intro n
  induction n with
  | zero => intro k G vi mi h1 h2; omega
  | succ n ih =>
    intro k G vi mi h1 h2 h3 hb
    rw [cF_StepMachine_input_L27, mF_StepMachineModel_input_L28]
    by_cases h : k = W
    · subst h
      rw [if_pos (Int32.le_refl _), if_pos (Int32.le_refl _)]
      exact ⟨vi, mi, G, by omega, rfl, rfl, hb⟩
    · have nle : ¬ nI W ≤ nI k := fun q => by have := (nI_leI (by omega) (by omega)).mp q; omega
      have room : ¬ cF_Ports_hasRoomIn (nI G) 1 = 0 := by
        rw [cF_Ports_hasRoomIn, if_neg]
        · decide
        · intro q
          have a := ti_lt q
          rw [show (1000 : Int32) - nI G = nI (1000 - G) from pk_sub (a := 1000) (by omega), nI_toInt (by omega), e_1] at a
          omega
      rw [if_neg nle, if_neg nle, cF_StepMachine_input_2, cF_Ports_give, if_neg room, nI_1, nI_clamp (by omega), lby_all x1 (by omega), nI_1]
      refine ih (k + 1) (G + 1) (upd vi G (vp_nar .byte (cF_StepMachine_byteOf x1 (nI k)).toInt8.toInt32)) (upd mi G (cF_StepMachine_byteOf x1 (nI k))) (by omega) (by omega) (by omega) (fun j => ?_)
      by_cases e : j = G
      · subst e
        rw [pk_us, pk_us, byte_and, byte_id]
      · rw [pk_un e, pk_un e]
        exact hb j
theorem input_alike {vi mi : Nat → Int32} (hi : Rb vi mi) {giv : Int32} (hg : 0 ≤ giv.toInt ∧ giv.toInt ≤ 1000) (ct x0 : Int32) (x1 : Int64) : ∃ (ok giv' ct' : Int32) (vi' mi' : Nat → Int32), cF_StepMachine_input giv vi ct x0 x1 = (ok, vi', giv', ct') ∧ mF_StepMachineModel_input giv ct mi x0 x1 = (ok, mi', giv', ct') ∧ Rb vi' mi' ∧ (0 ≤ giv'.toInt ∧ giv'.toInt ≤ 1000) ∧ (ct' = ct ∨ ct' = 0) := by
  rw [cF_StepMachine_input, mF_StepMachineModel_input]
  by_cases c1 : x0 < 1
  · rw [if_pos c1, if_pos c1]
    exact ⟨0, giv, ct, vi, mi, rfl, rfl, hi, hg, Or.inl rfl⟩
  · rw [if_neg c1, if_neg c1]
    by_cases c2 : 8 < x0
    · rw [if_pos c2, if_pos c2]
      exact ⟨0, giv, ct, vi, mi, rfl, rfl, hi, hg, Or.inl rfl⟩
    · rw [if_neg c2, if_neg c2]
      have a1 := ob_nlt c1
      rw [e_1] at a1
      have a2 := ob_nlt c2
      rw [e_8] at a2
      have h0 := ti_nI hg.1
      have h1 := ti_nI (show 0 ≤ x0.toInt by omega)
      generalize hA : giv.toInt.toNat = G at h0
      generalize hW : x0.toInt.toNat = W at h1
      have hW2 : W ≤ 8 := by omega
      have hG2 : G ≤ 1000 := by omega
      subst h0 h1
      rw [cF_Ports_hasRoomIn, show (1000 : Int32) - nI G = nI (1000 - G) from pk_sub (a := 1000) (by omega), nI_add]
      have k1 : nI (1000 - G) < nI W ↔ 1000 - G < W := nI_ltI (by omega) (by omega)
      have k2 : nI (G + W) ≤ 1000 ↔ G + W ≤ 1000 := nI_leI (b := 1000) (by omega) (by decide)
      by_cases c3 : G + W ≤ 1000
      · rw [if_neg (show ¬ nI (1000 - G) < nI W from fun q => by have := k1.mp q; omega), if_neg (show ¬ (1 : Int32) = 0 by decide), if_pos (k2.mpr c3)]
        have f1 : (nI W).toNatClampNeg + 1 = W + 1 := by rw [nI_clamp (by omega)]
        have f2 : ((nI W).toInt - (0 : Int32).toInt).toNat + 1 = W + 1 := by rw [nI_toInt (by omega), e_0]; omega
        rw [f1, f2]
        obtain ⟨vi', mi', G', g1, e1, e2, hb⟩ := input_L (x1 := x1) hW2 ct (W + 1) 0 G vi mi rfl (by omega) (by omega) hi
        refine ⟨1, nI G', 0, vi', mi', e1, ?_, hb, ⟨by rw [nI_toInt (by omega)]; omega, by rw [nI_toInt (by omega)]; omega⟩, Or.inr rfl⟩
        rw [mF_StepMachineModel_input_1, mF_StepMachineModel_input_2]
        show (1, (mF_StepMachineModel_input_L28 (nI W) x1 (W + 1) (nI 0) mi (nI G)).2.1, (mF_StepMachineModel_input_L28 (nI W) x1 (W + 1) (nI 0) mi (nI G)).2.2, _) = _
        rw [e2]
        rfl
      · rw [if_pos (k1.mpr (by omega)), if_pos (show (0 : Int32) = 0 from rfl), if_neg (fun q => c3 (k2.mp q))]
        exact ⟨0, nI G, ct, vi, mi, rfl, rfl, hi, hg, Or.inl rfl⟩
def Rh (hc : Int32) (hp : Nat → Int32) : Prop := (0 ≤ hc.toInt ∧ hc.toInt ≤ 8) ∧ ∀ j, j < hc.toInt.toNat → 0 ≤ (hp j).toInt ∧ hp j &&& 1 = 0
theorem hal_rng {hc : Int32} {hp : Nat → Int32} {H : Nat} (hH : H ≤ 8) (hc' : hc = nI H) (x : Int32) : ∀ n k : Nat, n + k = H + 1 → mF_StepMachineModel_haltAt_L2 hc hp x n (nI k) = -1 ∨ (∃ j, j < H ∧ mF_StepMachineModel_haltAt_L2 hc hp x n (nI k) = nI j ∧ hp j = x) ∨ n = 0 := by
  intro n
  induction n with
  | zero => intro k _; exact Or.inr (Or.inr rfl)
  | succ n ih =>
    intro k hk
    rw [mF_StepMachineModel_haltAt_L2]
    by_cases h : H ≤ k
    · rw [if_pos (by rw [hc']; exact (nI_leI (by omega) (by omega)).mpr h)]
      exact Or.inl rfl
    · rw [if_neg (by rw [hc']; exact fun q => h ((nI_leI (by omega) (by omega)).mp q)), nI_clamp (by omega)]
      by_cases e : hp k = x
      · rw [if_pos e]
        exact Or.inr (Or.inl ⟨k, by omega, rfl, e⟩)
      · rw [if_neg e, nI_1]
        rcases ih (k + 1) (by omega) with q | q | q
        · exact Or.inl q
        · exact Or.inr (Or.inl q)
        · omega
theorem ha_cases {hc : Int32} {hp : Nat → Int32} {H : Nat} (hH : H ≤ 8) (hc' : hc = nI H) (x : Int32) : mF_StepMachineModel_haltAt hc hp x = -1 ∨ ∃ j, j < H ∧ mF_StepMachineModel_haltAt hc hp x = nI j ∧ hp j = x := by
  rw [mF_StepMachineModel_haltAt, show (hc.toInt - (0 : Int32).toInt).toNat + 1 = H + 1 from by rw [hc', nI_toInt (by omega), e_0]; omega]
  rcases hal_rng (hp := hp) hH hc' x (H + 1) 0 rfl with q | q | q
  · exact Or.inl q
  · exact Or.inr q
  · omega
theorem halt_alike {hc : Int32} {hp : Nat → Int32} (hh : Rh hc hp) (ct x0 x1 : Int32) (hb : x1 = 0 ∨ x1 = 1) : ∃ (ok hc' ct' : Int32) (hp' : Nat → Int32), cF_StepMachine_halt hc hp ct x0 x1 = (ok, hp', hc', ct') ∧ mF_StepMachineModel_halt hc ct hp x0 x1 = (ok, hp', hc', ct') ∧ Rh hc' hp' ∧ (ct' = ct ∨ ct' = 0) := by
  have hn := ti_nI hh.1.1
  generalize hHH : hc.toInt.toNat = H at hn
  have hH : H ≤ 8 := by have := hh.1.2; omega
  have hR : ∀ j, j < H → 0 ≤ (hp j).toInt ∧ hp j &&& 1 = 0 := fun j hj => hh.2 j (by omega)
  have ev2 : ¬ x0 < 0 → (x0 - x0 / 2 * 2 = 0 ↔ x0 &&& 1 = 0) := fun c0 => by
    have a := ob_nlt c0
    rw [e_0] at a
    have hx := ti_nI a
    have hlt := Int32.toInt_lt x0
    generalize hq : x0.toInt.toNat = n at hx
    have hq2 : n < 2147483648 := by omega
    rw [hx]
    by_cases hb2 : n < 2147483648
    · rw [show nI n &&& 1 = nI (n % 2) from pk_andN (by omega) 1 (by decide), show nI n - nI n / 2 * 2 = nI (n % 2) from pk_rem (d := 2) (by omega) (by decide) (by decide)]
    · exact absurd hq2 hb2
  have stay : Rh hc hp := hh
  have hadd : ¬ x0 < 0 → x0 &&& 1 = 0 → H < 8 → Rh (hc + 1) (upd hp hc.toNatClampNeg x0) := fun c0 c1 c2 => by
    have a := ob_nlt c0
    rw [e_0] at a
    have e : (hc + 1).toInt.toNat = H + 1 := by rw [hn, nI_1, nI_toInt (by omega)]; omega
    refine ⟨?_, fun j hj => ?_⟩
    · rw [hn, nI_1, nI_toInt (by omega)]; omega
    · rw [e] at hj
      rw [hn, nI_clamp (by omega)]
      by_cases q : j = H
      · rw [q, pk_us]
        exact ⟨a, c1⟩
      · rw [pk_un q]
        exact hR j (by omega)
  have hdel : ∀ i, i < H → Rh (hc - 1) (upd hp (nI i).toNatClampNeg (hp (hc - 1).toNatClampNeg)) := fun i hi => by
    have e0 : hc - 1 = nI (H - 1) := by rw [hn]; exact pk_sub (b := 1) (by omega)
    have e : (hc - 1).toInt.toNat = H - 1 := by rw [e0, nI_toInt (by omega)]; omega
    refine ⟨?_, fun j hj => ?_⟩
    · rw [e0, nI_toInt (by omega)]; omega
    · rw [e] at hj
      rw [e0, nI_clamp (by omega), nI_clamp (by omega)]
      by_cases q : j = i
      · rw [q, pk_us]
        exact hR _ (by omega)
      · rw [pk_un q]
        exact hR j (by omega)
  rw [cF_StepMachine_halt, cF_Halts_remove, cF_Halts_add, mF_StepMachineModel_halt, fi_alike hh.1]
  rcases hb with hb | hb <;> subst hb
  · rw [if_pos rfl, if_neg (show ¬ (0 : Int32) = 1 by decide), if_pos rfl, if_pos rfl]
    rcases ha_cases (hp := hp) hH hn x0 with q | ⟨i, i1, i2, i3⟩
    · rw [if_pos q, if_pos q]
      refine ⟨0, hc, ct, hp, rfl, ?_, stay, Or.inl rfl⟩
      split
      · rfl
      · split <;> rfl
    · have r := hR i i1
      rw [i3] at r
      have c0 : ¬ x0 < 0 := fun w => by have := ti_lt w; rw [e_0] at this; omega
      rw [if_neg (by rw [i2]; exact nI_nm1 (by omega)), if_neg c0, if_pos ((ev2 c0).mpr r.2), if_neg (by rw [i2]; exact nI_nm1 (by omega)), mF_StepMachineModel_halt_2, i2]
      exact ⟨1, hc - 1, 0, _, rfl, rfl, hdel i i1, Or.inr rfl⟩
  · rw [if_neg (show ¬ (1 : Int32) = 0 by decide), if_neg (show ¬ (1 : Int32) = 0 by decide), if_pos rfl]
    by_cases c0 : x0 < 0
    · rw [if_pos c0, if_pos c0]
      exact ⟨0, hc, ct, hp, rfl, rfl, stay, Or.inl rfl⟩
    · rw [if_neg c0, if_neg c0]
      by_cases c1 : x0 &&& 1 = 0
      · rw [if_pos c1, if_pos ((ev2 c0).mpr c1)]
        by_cases c2 : mF_StepMachineModel_haltAt hc hp x0 = -1
        · rw [if_pos ((ha_iff hh.1 hp x0).mpr c2), if_pos c2]
          by_cases c3 : H = 8
          · rw [if_neg (fun w => by have := ti_lt w; rw [hn, nI_toInt (by omega), e_8] at this; omega), if_pos (by rw [hn, c3]; rfl)]
            exact ⟨0, hc, ct, hp, rfl, rfl, stay, Or.inl rfl⟩
          · rw [if_pos (Int32.lt_iff_toInt_lt.mpr (by rw [hn, nI_toInt (by omega), e_8]; omega)), if_neg (fun w => c3 (by rw [hn] at w; exact (nI_eq (b := 8) (by omega) (by decide)).mp w)), mF_StepMachineModel_halt_1]
            exact ⟨1, hc + 1, 0, _, rfl, rfl, hadd c0 c1 (by omega), Or.inr rfl⟩
        · rw [if_neg (fun w => c2 ((ha_iff hh.1 hp x0).mp w)), if_neg c2]
          exact ⟨0, hc, ct, hp, rfl, rfl, stay, Or.inl rfl⟩
      · rw [if_neg c1, if_neg (fun w => c1 ((ev2 c0).mp w))]
        exact ⟨0, hc, ct, hp, rfl, rfl, stay, Or.inl rfl⟩
theorem state_alike (st cu va sp un giv tak put ct hc x0 : Int32) : cF_StepMachine_state st cu va sp un giv tak put ct hc x0 = mF_StepMachineModel_state hc giv tak put st cu va sp un ct x0 := rfl
theorem output_alike {vo mo : Nat → Int32} (ho : Rb vo mo) (put x0 : Int32) : cF_StepMachine_output put vo x0 = mF_StepMachineModel_output put mo x0 := by
  rw [cF_StepMachine_output, cF_Ports_outputAt, mF_StepMachineModel_output, ho]
theorem rights_alike {f g r vm mm : Nat → Int32} (hS : Rseg f g) (hk : Rk vm mm) (x0 : Int32) : cF_StepMachine_rights f g r vm x0 = mF_StepMachineModel_rights f g r mm x0 := by
  rw [cF_StepMachine_rights, mF_StepMachineModel_rights, im_l hk, ra_l hS]
