def byteAt (c : Nat → Int32) (j : Nat) : Int32 := (j_ushr (c (j / 4)) (nI (j % 4 * 8))) &&& 255
def Rm (c m : Nat → Int32) : Prop := ∀ j, m j = byteAt c j
theorem bx_ext {x y : Int32} (h : ∀ i, i < 32 → x.toBitVec.getLsbD i = y.toBitVec.getLsbD i) : x = y := Int32.toBitVec_inj.mp (BitVec.eq_of_getLsbD_eq (fun i hi => h i hi))
theorem bx_or (x y : Int32) (i : Nat) : (x ||| y).toBitVec.getLsbD i = (x.toBitVec.getLsbD i || y.toBitVec.getLsbD i) := by rw [Int32.toBitVec_or, BitVec.getLsbD_or]
theorem bx_and (x y : Int32) (i : Nat) : (x &&& y).toBitVec.getLsbD i = (x.toBitVec.getLsbD i && y.toBitVec.getLsbD i) := by rw [Int32.toBitVec_and, BitVec.getLsbD_and]
theorem bx_shl {x b : Int32} (n : Nat) (hb : (b.toBitVec.smod 32).toNat = n) {i : Nat} (hi : i < 32) : (x <<< b).toBitVec.getLsbD i = (!decide (i < n) && x.toBitVec.getLsbD (i - n)) := by
  rw [Int32.toBitVec_shiftLeft, BitVec.getLsbD_shiftLeft', hb]
  simp [hi]
theorem bx_ushr {x b : Int32} (n : Nat) (hb : (b.toBitVec &&& 31#32).toNat % 32 = n) (i : Nat) : (j_ushr x b).toBitVec.getLsbD i = x.toBitVec.getLsbD (n + i) := by
  have e0 : (j_ushr x b).toBitVec = x.toBitVec >>> ((b.toBitVec &&& 31#32) % 32#32) := rfl
  rw [e0, BitVec.ushiftRight_eq', BitVec.getLsbD_ushiftRight, BitVec.toNat_umod, show (32#32 : BitVec 32).toNat = 32 from rfl, hb]
theorem ushr_or (x y b z : Int32) : (j_ushr (x ||| y) b) &&& z = ((j_ushr x b) &&& z) ||| ((j_ushr y b) &&& z) := by
  apply bx_ext
  intro i hi
  rw [bx_or, bx_and, bx_and, bx_and, bx_ushr _ rfl, bx_ushr _ rfl, bx_ushr _ rfl, bx_or, Bool.and_or_distrib_right]
theorem or0l (x : Int32) : 0 ||| x = x := by
  apply bx_ext
  intro i hi
  rw [bx_or, show (0 : Int32).toBitVec.getLsbD i = false from BitVec.getLsbD_zero, Bool.false_or]
theorem or0r (x : Int32) : x ||| 0 = x := by
  apply bx_ext
  intro i hi
  rw [bx_or, show (0 : Int32).toBitVec.getLsbD i = false from BitVec.getLsbD_zero, Bool.or_false]
theorem nI_nneg {a : Nat} (h : a < 2147483648) : ¬ nI a < 0 := fun q => by
  have := ti_lt q
  rw [nI_toInt h, e_0] at this
  omega
theorem nI_nge {a : Nat} (h : a < 131072) : ¬ 131072 ≤ nI a := fun q => by
  have := ti_le q
  rw [nI_toInt (by omega), e_131072] at this
  omega
theorem has_of {a : Nat} (h : a < 131072) : ¬ cF_Memory_has (nI a) = 0 := by
  rw [cF_Memory_has, if_neg (nI_nneg (by omega)), if_neg (nI_nge h)]
  decide
theorem has_out {x : Int32} (h : x.toInt < 0 ∨ 131072 ≤ x.toInt) : cF_Memory_has x = 0 := by
  rw [cF_Memory_has]
  by_cases c : x < 0
  · rw [if_pos c]
  · rw [if_neg c, if_pos]
    have a := ob_nlt c
    rw [e_0] at a
    exact Int32.le_iff_toInt_le.mpr (by rw [e_131072]; omega)
theorem cix_of {a : Nat} (h : a < 131072) : ((nI a) >>> ((2 : Int32) &&& 31)).toNatClampNeg = a / 4 := by
  have e : nI a >>> ((2 : Int32) &&& 31) = nI (a / 4) := pk_shrN (by omega) _ 2 (by decide)
  rw [e, nI_clamp (by omega)]
theorem sh_of {a : Nat} (h : a < 131072) : cF_Memory_shiftOf (nI a) = nI (a % 4 * 8) := by
  have e : nI a &&& 3 = nI (a % 4) := pk_andN (by omega) 2 (by decide)
  rw [cF_Memory_shiftOf, e]
  exact pk_mul _ 8
theorem cellOf_of {c : Nat → Int32} {a : Nat} (h : a < 131072) : cF_Memory_cellOf c (nI a) = c (a / 4) := by
  rw [cF_Memory_cellOf, if_neg (has_of h), cix_of h]
theorem num_of {c : Nat → Int32} {a : Nat} (h : a < 131072) (w : Int32) : cF_Memory_number c (nI a) w = (j_ushr (c (a / 4)) (nI (a % 4 * 8))) &&& cF_Memory_maskOf w := by
  rw [cF_Memory_number, cellOf_of h, sh_of h]
theorem mask1 : cF_Memory_maskOf 1 = 255 := by decide
theorem mask2 : cF_Memory_maskOf 2 = 65535 := by decide
theorem mask4 : cF_Memory_maskOf 4 = -1 := by decide
theorem ix_add {a k : Nat} (h : a + k < 2147483648) : (nI a + nI k).toNatClampNeg = a + k := by
  rw [nI_add, nI_clamp (by omega)]
theorem ft_1 (m : Nat → Int32) (x0 : Int32) : mF_StepMachineModel_fetched m x0 1 = (0 ||| ((m (x0 + (0 : Int32)).toNatClampNeg) <<< ((8 * (0 : Int32)) &&& 31))) := by
  rw [mF_StepMachineModel_fetched, show ((1 : Int32).toInt - (0 : Int32).toInt).toNat + 1 = 2 from by decide, mF_StepMachineModel_fetched_L5, if_neg (by decide), mF_StepMachineModel_fetched_L5, if_pos (by decide), mF_StepMachineModel_fetched_1]
theorem ft_2 (m : Nat → Int32) (x0 : Int32) : mF_StepMachineModel_fetched m x0 2 = ((0 ||| ((m (x0 + (0 : Int32)).toNatClampNeg) <<< ((8 * (0 : Int32)) &&& 31))) ||| ((m (x0 + ((0 : Int32) + 1)).toNatClampNeg) <<< ((8 * ((0 : Int32) + 1)) &&& 31))) := by
  rw [mF_StepMachineModel_fetched, show ((2 : Int32).toInt - (0 : Int32).toInt).toNat + 1 = 3 from by decide, mF_StepMachineModel_fetched_L5, if_neg (by decide), mF_StepMachineModel_fetched_L5, if_neg (by decide), mF_StepMachineModel_fetched_L5, if_pos (by decide), mF_StepMachineModel_fetched_1]
theorem ft_4 (m : Nat → Int32) (x0 : Int32) : mF_StepMachineModel_fetched m x0 4 = ((((0 ||| ((m (x0 + (0 : Int32)).toNatClampNeg) <<< ((8 * (0 : Int32)) &&& 31))) ||| ((m (x0 + ((0 : Int32) + 1)).toNatClampNeg) <<< ((8 * ((0 : Int32) + 1)) &&& 31))) ||| ((m (x0 + (((0 : Int32) + 1) + 1)).toNatClampNeg) <<< ((8 * (((0 : Int32) + 1) + 1)) &&& 31))) ||| ((m (x0 + ((((0 : Int32) + 1) + 1) + 1)).toNatClampNeg) <<< ((8 * ((((0 : Int32) + 1) + 1) + 1)) &&& 31))) := by
  rw [mF_StepMachineModel_fetched, show ((4 : Int32).toInt - (0 : Int32).toInt).toNat + 1 = 5 from by decide, mF_StepMachineModel_fetched_L5, if_neg (by decide), mF_StepMachineModel_fetched_L5, if_neg (by decide), mF_StepMachineModel_fetched_L5, if_neg (by decide), mF_StepMachineModel_fetched_L5, if_neg (by decide), mF_StepMachineModel_fetched_L5, if_pos (by decide), mF_StepMachineModel_fetched_1]
theorem fn_1 (m : Nat → Int32) {a : Nat} (h : a + 1 ≤ 131072) : mF_StepMachineModel_fetched m (nI a) 1 = (0 ||| ((m (a + 0)) <<< ((0 : Int32) &&& 31))) := by
  rw [ft_1, show (nI a + (0 : Int32)).toNatClampNeg = a + 0 from ix_add (k := 0) (by omega)]
  rfl
theorem fn_2 (m : Nat → Int32) {a : Nat} (h : a + 2 ≤ 131072) : mF_StepMachineModel_fetched m (nI a) 2 = ((0 ||| ((m (a + 0)) <<< ((0 : Int32) &&& 31))) ||| ((m (a + 1)) <<< ((8 : Int32) &&& 31))) := by
  rw [ft_2, show (nI a + (0 : Int32)).toNatClampNeg = a + 0 from ix_add (k := 0) (by omega), show (nI a + ((0 : Int32) + 1)).toNatClampNeg = a + 1 from ix_add (k := 1) (by omega)]
  rfl
theorem fn_4 (m : Nat → Int32) {a : Nat} (h : a + 4 ≤ 131072) : mF_StepMachineModel_fetched m (nI a) 4 = ((((0 ||| ((m (a + 0)) <<< ((0 : Int32) &&& 31))) ||| ((m (a + 1)) <<< ((8 : Int32) &&& 31))) ||| ((m (a + 2)) <<< ((16 : Int32) &&& 31))) ||| ((m (a + 3)) <<< ((24 : Int32) &&& 31))) := by
  rw [ft_4, show (nI a + (0 : Int32)).toNatClampNeg = a + 0 from ix_add (k := 0) (by omega), show (nI a + ((0 : Int32) + 1)).toNatClampNeg = a + 1 from ix_add (k := 1) (by omega), show (nI a + (((0 : Int32) + 1) + 1)).toNatClampNeg = a + 2 from ix_add (k := 2) (by omega), show (nI a + ((((0 : Int32) + 1) + 1) + 1)).toNatClampNeg = a + 3 from ix_add (k := 3) (by omega)]
  rfl
theorem nf_1_0 (W : Int32) : (j_ushr W (nI (0 * 8))) &&& 255 = (0 ||| (((j_ushr W (nI (0 * 8))) &&& 255) <<< ((0 : Int32) &&& 31))) := sel_eq (sel_and 255 (sel_ushr 0 (by decide) (sel_self W))) (sel_or (sel_const W 0) (sel_shl 0 (by decide) (sel_and 255 (sel_ushr 0 (by decide) (sel_self W)))) (by decide +kernel)) (by decide +kernel)
theorem nf_1_1 (W : Int32) : (j_ushr W (nI (1 * 8))) &&& 255 = (0 ||| (((j_ushr W (nI (1 * 8))) &&& 255) <<< ((0 : Int32) &&& 31))) := sel_eq (sel_and 255 (sel_ushr 8 (by decide) (sel_self W))) (sel_or (sel_const W 0) (sel_shl 0 (by decide) (sel_and 255 (sel_ushr 8 (by decide) (sel_self W)))) (by decide +kernel)) (by decide +kernel)
theorem nf_1_2 (W : Int32) : (j_ushr W (nI (2 * 8))) &&& 255 = (0 ||| (((j_ushr W (nI (2 * 8))) &&& 255) <<< ((0 : Int32) &&& 31))) := sel_eq (sel_and 255 (sel_ushr 16 (by decide) (sel_self W))) (sel_or (sel_const W 0) (sel_shl 0 (by decide) (sel_and 255 (sel_ushr 16 (by decide) (sel_self W)))) (by decide +kernel)) (by decide +kernel)
theorem nf_1_3 (W : Int32) : (j_ushr W (nI (3 * 8))) &&& 255 = (0 ||| (((j_ushr W (nI (3 * 8))) &&& 255) <<< ((0 : Int32) &&& 31))) := sel_eq (sel_and 255 (sel_ushr 24 (by decide) (sel_self W))) (sel_or (sel_const W 0) (sel_shl 0 (by decide) (sel_and 255 (sel_ushr 24 (by decide) (sel_self W)))) (by decide +kernel)) (by decide +kernel)
theorem nf_2_0 (W : Int32) : (j_ushr W (nI (0 * 8))) &&& 65535 = ((0 ||| (((j_ushr W (nI (0 * 8))) &&& 255) <<< ((0 : Int32) &&& 31))) ||| (((j_ushr W (nI (1 * 8))) &&& 255) <<< ((8 : Int32) &&& 31))) := sel_eq (sel_and 65535 (sel_ushr 0 (by decide) (sel_self W))) (sel_or (sel_or (sel_const W 0) (sel_shl 0 (by decide) (sel_and 255 (sel_ushr 0 (by decide) (sel_self W)))) (by decide +kernel)) (sel_shl 8 (by decide) (sel_and 255 (sel_ushr 8 (by decide) (sel_self W)))) (by decide +kernel)) (by decide +kernel)
theorem nf_2_2 (W : Int32) : (j_ushr W (nI (2 * 8))) &&& 65535 = ((0 ||| (((j_ushr W (nI (2 * 8))) &&& 255) <<< ((0 : Int32) &&& 31))) ||| (((j_ushr W (nI (3 * 8))) &&& 255) <<< ((8 : Int32) &&& 31))) := sel_eq (sel_and 65535 (sel_ushr 16 (by decide) (sel_self W))) (sel_or (sel_or (sel_const W 0) (sel_shl 0 (by decide) (sel_and 255 (sel_ushr 16 (by decide) (sel_self W)))) (by decide +kernel)) (sel_shl 8 (by decide) (sel_and 255 (sel_ushr 24 (by decide) (sel_self W)))) (by decide +kernel)) (by decide +kernel)
theorem nf_4_0 (W : Int32) : (j_ushr W (nI (0 * 8))) &&& (-1) = ((((0 ||| (((j_ushr W (nI (0 * 8))) &&& 255) <<< ((0 : Int32) &&& 31))) ||| (((j_ushr W (nI (1 * 8))) &&& 255) <<< ((8 : Int32) &&& 31))) ||| (((j_ushr W (nI (2 * 8))) &&& 255) <<< ((16 : Int32) &&& 31))) ||| (((j_ushr W (nI (3 * 8))) &&& 255) <<< ((24 : Int32) &&& 31))) := sel_eq (sel_and (-1) (sel_ushr 0 (by decide) (sel_self W))) (sel_or (sel_or (sel_or (sel_or (sel_const W 0) (sel_shl 0 (by decide) (sel_and 255 (sel_ushr 0 (by decide) (sel_self W)))) (by decide +kernel)) (sel_shl 8 (by decide) (sel_and 255 (sel_ushr 8 (by decide) (sel_self W)))) (by decide +kernel)) (sel_shl 16 (by decide) (sel_and 255 (sel_ushr 16 (by decide) (sel_self W)))) (by decide +kernel)) (sel_shl 24 (by decide) (sel_and 255 (sel_ushr 24 (by decide) (sel_self W)))) (by decide +kernel)) (by decide +kernel)
theorem num_1 {c m : Nat → Int32} (hm : Rm c m) {a : Nat} (h : a + 1 ≤ 131072) : cF_Memory_number c (nI a) 1 = mF_StepMachineModel_fetched m (nI a) 1 := by
  rw [num_of (by omega), mask1, fn_1 m h, hm (a + 0)]
  unfold byteAt
  rcases (show a % 4 = 0 ∨ a % 4 = 1 ∨ a % 4 = 2 ∨ a % 4 = 3 by omega) with e | e | e | e
  · rw [show (a + 0) / 4 = a / 4 by omega, show (a + 0) % 4 = 0 by omega, e]
    exact nf_1_0 _
  · rw [show (a + 0) / 4 = a / 4 by omega, show (a + 0) % 4 = 1 by omega, e]
    exact nf_1_1 _
  · rw [show (a + 0) / 4 = a / 4 by omega, show (a + 0) % 4 = 2 by omega, e]
    exact nf_1_2 _
  · rw [show (a + 0) / 4 = a / 4 by omega, show (a + 0) % 4 = 3 by omega, e]
    exact nf_1_3 _
theorem num_2 {c m : Nat → Int32} (hm : Rm c m) {a : Nat} (h : a + 2 ≤ 131072) (ha : a % 2 = 0) : cF_Memory_number c (nI a) 2 = mF_StepMachineModel_fetched m (nI a) 2 := by
  rw [num_of (by omega), mask2, fn_2 m h, hm (a + 0), hm (a + 1)]
  unfold byteAt
  rcases (show a % 4 = 0 ∨ a % 4 = 2 by omega) with e | e
  · rw [show (a + 0) / 4 = a / 4 by omega, show (a + 0) % 4 = 0 by omega, show (a + 1) / 4 = a / 4 by omega, show (a + 1) % 4 = 1 by omega, e]
    exact nf_2_0 _
  · rw [show (a + 0) / 4 = a / 4 by omega, show (a + 0) % 4 = 2 by omega, show (a + 1) / 4 = a / 4 by omega, show (a + 1) % 4 = 3 by omega, e]
    exact nf_2_2 _
theorem num_4 {c m : Nat → Int32} (hm : Rm c m) {a : Nat} (h : a + 4 ≤ 131072) (ha : a % 4 = 0) : cF_Memory_number c (nI a) 4 = mF_StepMachineModel_fetched m (nI a) 4 := by
  rw [num_of (by omega), mask4, fn_4 m h, hm (a + 0), hm (a + 1), hm (a + 2), hm (a + 3)]
  unfold byteAt
  rcases (show a % 4 = 0 by omega) with e
  · rw [show (a + 0) / 4 = a / 4 by omega, show (a + 0) % 4 = 0 by omega, show (a + 1) / 4 = a / 4 by omega, show (a + 1) % 4 = 1 by omega, show (a + 2) / 4 = a / 4 by omega, show (a + 2) % 4 = 2 by omega, show (a + 3) / 4 = a / 4 by omega, show (a + 3) % 4 = 3 by omega, e]
    exact nf_4_0 _
theorem num_b {c m : Nat → Int32} (hm : Rm c m) {a : Nat} (h : a < 131072) : cF_Memory_number c (nI a) 1 = m a := by
  rw [num_of h, mask1, hm a]
  rfl
theorem hi_of (x : Int32) : HiZ (x &&& 65535) := fun i hi => by
  rw [bx_and]
  by_cases h : i < 32
  · rw [(by decide +kernel : ∀ i, i < 32 → 16 ≤ i → (65535 : Int32).toBitVec.getLsbD i = false) i h hi, Bool.and_false]
  · rw [BitVec.getLsbD_of_ge _ _ (by omega), Bool.false_and]
theorem num2_hi {c : Nat → Int32} {a : Nat} (h : a < 131072) : HiZ (cF_Memory_number c (nI a) 2) := by
  rw [num_of h, mask2]
  exact hi_of _
theorem fn_42 (m : Nat → Int32) {a : Nat} (h : a + 4 ≤ 131072) : mF_StepMachineModel_fetched m (nI a) 4 = (mF_StepMachineModel_fetched m (nI a) 2) ||| ((mF_StepMachineModel_fetched m (nI (a + 2)) 2) <<< ((16 : Int32) &&& 31)) := by
  rw [fn_4 m h, fn_2 m (by omega), fn_2 m (by omega)]
  apply bx_ext
  intro i hi
  simp only [bx_or, bx_shl (b := (0 : Int32) &&& 31) 0 (by decide) hi, bx_shl (b := (8 : Int32) &&& 31) 8 (by decide) hi, bx_shl (b := (16 : Int32) &&& 31) 16 (by decide) hi, bx_shl (b := (24 : Int32) &&& 31) 24 (by decide) hi]
  by_cases h16 : i < 16
  · simp [h16, show i < 24 by omega]
  · have h2 : i - 16 < 32 := by omega
    simp only [bx_or, bx_shl (b := (0 : Int32) &&& 31) 0 (by decide) h2, bx_shl (b := (8 : Int32) &&& 31) 8 (by decide) h2]
    by_cases h24 : i < 24
    · simp [h16, h24, show i - 16 < 8 by omega, Nat.add_assoc]
    · simp [h16, h24, show ¬ i - 16 < 8 by omega, show i - 16 - 8 = i - 24 by omega, Nat.add_assoc, Bool.or_assoc]
theorem pn_1_0_0 (C v : Int32) : (j_ushr ((C &&& (((cF_Memory_maskOf 1) <<< ((nI (0 * 8)) &&& 31)) ^^^ (-1))) ||| ((v <<< ((nI (0 * 8)) &&& 31)) &&& ((cF_Memory_maskOf 1) <<< ((nI (0 * 8)) &&& 31)))) (nI (0 * 8))) &&& 255 = ((v >>> ((0 : Int32) &&& 31)) &&& 255) := by
  have A : (j_ushr (C &&& (((cF_Memory_maskOf 1) <<< ((nI (0 * 8)) &&& 31)) ^^^ (-1))) (nI (0 * 8))) &&& 255 = 0 := sel_eq (sel_and 255 (sel_ushr 0 (by decide) (sel_and (((cF_Memory_maskOf 1) <<< ((nI (0 * 8)) &&& 31)) ^^^ (-1)) (sel_self C)))) (sel_const C 0) (by decide +kernel)
  have B : (j_ushr ((v <<< ((nI (0 * 8)) &&& 31)) &&& ((cF_Memory_maskOf 1) <<< ((nI (0 * 8)) &&& 31))) (nI (0 * 8))) &&& 255 = ((v >>> ((0 : Int32) &&& 31)) &&& 255) := sel_eq (sel_and 255 (sel_ushr 0 (by decide) (sel_and ((cF_Memory_maskOf 1) <<< ((nI (0 * 8)) &&& 31)) (sel_shl 0 (by decide) (sel_self v))))) (sel_and 255 (sel_sar 0 (by decide) (sel_self v))) (by decide +kernel)
  rw [ushr_or, A, B, or0l]
theorem pn_1_0_1 (C v : Int32) : (j_ushr ((C &&& (((cF_Memory_maskOf 1) <<< ((nI (0 * 8)) &&& 31)) ^^^ (-1))) ||| ((v <<< ((nI (0 * 8)) &&& 31)) &&& ((cF_Memory_maskOf 1) <<< ((nI (0 * 8)) &&& 31)))) (nI (1 * 8))) &&& 255 = ((j_ushr C (nI (1 * 8))) &&& 255) := by
  have A : (j_ushr (C &&& (((cF_Memory_maskOf 1) <<< ((nI (0 * 8)) &&& 31)) ^^^ (-1))) (nI (1 * 8))) &&& 255 = ((j_ushr C (nI (1 * 8))) &&& 255) := sel_eq (sel_and 255 (sel_ushr 8 (by decide) (sel_and (((cF_Memory_maskOf 1) <<< ((nI (0 * 8)) &&& 31)) ^^^ (-1)) (sel_self C)))) (sel_and 255 (sel_ushr 8 (by decide) (sel_self C))) (by decide +kernel)
  have B : (j_ushr ((v <<< ((nI (0 * 8)) &&& 31)) &&& ((cF_Memory_maskOf 1) <<< ((nI (0 * 8)) &&& 31))) (nI (1 * 8))) &&& 255 = 0 := sel_eq (sel_and 255 (sel_ushr 8 (by decide) (sel_and ((cF_Memory_maskOf 1) <<< ((nI (0 * 8)) &&& 31)) (sel_shl 0 (by decide) (sel_self v))))) (sel_const v 0) (by decide +kernel)
  rw [ushr_or, A, B, or0r]
theorem pn_1_0_2 (C v : Int32) : (j_ushr ((C &&& (((cF_Memory_maskOf 1) <<< ((nI (0 * 8)) &&& 31)) ^^^ (-1))) ||| ((v <<< ((nI (0 * 8)) &&& 31)) &&& ((cF_Memory_maskOf 1) <<< ((nI (0 * 8)) &&& 31)))) (nI (2 * 8))) &&& 255 = ((j_ushr C (nI (2 * 8))) &&& 255) := by
  have A : (j_ushr (C &&& (((cF_Memory_maskOf 1) <<< ((nI (0 * 8)) &&& 31)) ^^^ (-1))) (nI (2 * 8))) &&& 255 = ((j_ushr C (nI (2 * 8))) &&& 255) := sel_eq (sel_and 255 (sel_ushr 16 (by decide) (sel_and (((cF_Memory_maskOf 1) <<< ((nI (0 * 8)) &&& 31)) ^^^ (-1)) (sel_self C)))) (sel_and 255 (sel_ushr 16 (by decide) (sel_self C))) (by decide +kernel)
  have B : (j_ushr ((v <<< ((nI (0 * 8)) &&& 31)) &&& ((cF_Memory_maskOf 1) <<< ((nI (0 * 8)) &&& 31))) (nI (2 * 8))) &&& 255 = 0 := sel_eq (sel_and 255 (sel_ushr 16 (by decide) (sel_and ((cF_Memory_maskOf 1) <<< ((nI (0 * 8)) &&& 31)) (sel_shl 0 (by decide) (sel_self v))))) (sel_const v 0) (by decide +kernel)
  rw [ushr_or, A, B, or0r]
theorem pn_1_0_3 (C v : Int32) : (j_ushr ((C &&& (((cF_Memory_maskOf 1) <<< ((nI (0 * 8)) &&& 31)) ^^^ (-1))) ||| ((v <<< ((nI (0 * 8)) &&& 31)) &&& ((cF_Memory_maskOf 1) <<< ((nI (0 * 8)) &&& 31)))) (nI (3 * 8))) &&& 255 = ((j_ushr C (nI (3 * 8))) &&& 255) := by
  have A : (j_ushr (C &&& (((cF_Memory_maskOf 1) <<< ((nI (0 * 8)) &&& 31)) ^^^ (-1))) (nI (3 * 8))) &&& 255 = ((j_ushr C (nI (3 * 8))) &&& 255) := sel_eq (sel_and 255 (sel_ushr 24 (by decide) (sel_and (((cF_Memory_maskOf 1) <<< ((nI (0 * 8)) &&& 31)) ^^^ (-1)) (sel_self C)))) (sel_and 255 (sel_ushr 24 (by decide) (sel_self C))) (by decide +kernel)
  have B : (j_ushr ((v <<< ((nI (0 * 8)) &&& 31)) &&& ((cF_Memory_maskOf 1) <<< ((nI (0 * 8)) &&& 31))) (nI (3 * 8))) &&& 255 = 0 := sel_eq (sel_and 255 (sel_ushr 24 (by decide) (sel_and ((cF_Memory_maskOf 1) <<< ((nI (0 * 8)) &&& 31)) (sel_shl 0 (by decide) (sel_self v))))) (sel_const v 0) (by decide +kernel)
  rw [ushr_or, A, B, or0r]
theorem pn_1_1_0 (C v : Int32) : (j_ushr ((C &&& (((cF_Memory_maskOf 1) <<< ((nI (1 * 8)) &&& 31)) ^^^ (-1))) ||| ((v <<< ((nI (1 * 8)) &&& 31)) &&& ((cF_Memory_maskOf 1) <<< ((nI (1 * 8)) &&& 31)))) (nI (0 * 8))) &&& 255 = ((j_ushr C (nI (0 * 8))) &&& 255) := by
  have A : (j_ushr (C &&& (((cF_Memory_maskOf 1) <<< ((nI (1 * 8)) &&& 31)) ^^^ (-1))) (nI (0 * 8))) &&& 255 = ((j_ushr C (nI (0 * 8))) &&& 255) := sel_eq (sel_and 255 (sel_ushr 0 (by decide) (sel_and (((cF_Memory_maskOf 1) <<< ((nI (1 * 8)) &&& 31)) ^^^ (-1)) (sel_self C)))) (sel_and 255 (sel_ushr 0 (by decide) (sel_self C))) (by decide +kernel)
  have B : (j_ushr ((v <<< ((nI (1 * 8)) &&& 31)) &&& ((cF_Memory_maskOf 1) <<< ((nI (1 * 8)) &&& 31))) (nI (0 * 8))) &&& 255 = 0 := sel_eq (sel_and 255 (sel_ushr 0 (by decide) (sel_and ((cF_Memory_maskOf 1) <<< ((nI (1 * 8)) &&& 31)) (sel_shl 8 (by decide) (sel_self v))))) (sel_const v 0) (by decide +kernel)
  rw [ushr_or, A, B, or0r]
theorem pn_1_1_1 (C v : Int32) : (j_ushr ((C &&& (((cF_Memory_maskOf 1) <<< ((nI (1 * 8)) &&& 31)) ^^^ (-1))) ||| ((v <<< ((nI (1 * 8)) &&& 31)) &&& ((cF_Memory_maskOf 1) <<< ((nI (1 * 8)) &&& 31)))) (nI (1 * 8))) &&& 255 = ((v >>> ((0 : Int32) &&& 31)) &&& 255) := by
  have A : (j_ushr (C &&& (((cF_Memory_maskOf 1) <<< ((nI (1 * 8)) &&& 31)) ^^^ (-1))) (nI (1 * 8))) &&& 255 = 0 := sel_eq (sel_and 255 (sel_ushr 8 (by decide) (sel_and (((cF_Memory_maskOf 1) <<< ((nI (1 * 8)) &&& 31)) ^^^ (-1)) (sel_self C)))) (sel_const C 0) (by decide +kernel)
  have B : (j_ushr ((v <<< ((nI (1 * 8)) &&& 31)) &&& ((cF_Memory_maskOf 1) <<< ((nI (1 * 8)) &&& 31))) (nI (1 * 8))) &&& 255 = ((v >>> ((0 : Int32) &&& 31)) &&& 255) := sel_eq (sel_and 255 (sel_ushr 8 (by decide) (sel_and ((cF_Memory_maskOf 1) <<< ((nI (1 * 8)) &&& 31)) (sel_shl 8 (by decide) (sel_self v))))) (sel_and 255 (sel_sar 0 (by decide) (sel_self v))) (by decide +kernel)
  rw [ushr_or, A, B, or0l]
theorem pn_1_1_2 (C v : Int32) : (j_ushr ((C &&& (((cF_Memory_maskOf 1) <<< ((nI (1 * 8)) &&& 31)) ^^^ (-1))) ||| ((v <<< ((nI (1 * 8)) &&& 31)) &&& ((cF_Memory_maskOf 1) <<< ((nI (1 * 8)) &&& 31)))) (nI (2 * 8))) &&& 255 = ((j_ushr C (nI (2 * 8))) &&& 255) := by
  have A : (j_ushr (C &&& (((cF_Memory_maskOf 1) <<< ((nI (1 * 8)) &&& 31)) ^^^ (-1))) (nI (2 * 8))) &&& 255 = ((j_ushr C (nI (2 * 8))) &&& 255) := sel_eq (sel_and 255 (sel_ushr 16 (by decide) (sel_and (((cF_Memory_maskOf 1) <<< ((nI (1 * 8)) &&& 31)) ^^^ (-1)) (sel_self C)))) (sel_and 255 (sel_ushr 16 (by decide) (sel_self C))) (by decide +kernel)
  have B : (j_ushr ((v <<< ((nI (1 * 8)) &&& 31)) &&& ((cF_Memory_maskOf 1) <<< ((nI (1 * 8)) &&& 31))) (nI (2 * 8))) &&& 255 = 0 := sel_eq (sel_and 255 (sel_ushr 16 (by decide) (sel_and ((cF_Memory_maskOf 1) <<< ((nI (1 * 8)) &&& 31)) (sel_shl 8 (by decide) (sel_self v))))) (sel_const v 0) (by decide +kernel)
  rw [ushr_or, A, B, or0r]
theorem pn_1_1_3 (C v : Int32) : (j_ushr ((C &&& (((cF_Memory_maskOf 1) <<< ((nI (1 * 8)) &&& 31)) ^^^ (-1))) ||| ((v <<< ((nI (1 * 8)) &&& 31)) &&& ((cF_Memory_maskOf 1) <<< ((nI (1 * 8)) &&& 31)))) (nI (3 * 8))) &&& 255 = ((j_ushr C (nI (3 * 8))) &&& 255) := by
  have A : (j_ushr (C &&& (((cF_Memory_maskOf 1) <<< ((nI (1 * 8)) &&& 31)) ^^^ (-1))) (nI (3 * 8))) &&& 255 = ((j_ushr C (nI (3 * 8))) &&& 255) := sel_eq (sel_and 255 (sel_ushr 24 (by decide) (sel_and (((cF_Memory_maskOf 1) <<< ((nI (1 * 8)) &&& 31)) ^^^ (-1)) (sel_self C)))) (sel_and 255 (sel_ushr 24 (by decide) (sel_self C))) (by decide +kernel)
  have B : (j_ushr ((v <<< ((nI (1 * 8)) &&& 31)) &&& ((cF_Memory_maskOf 1) <<< ((nI (1 * 8)) &&& 31))) (nI (3 * 8))) &&& 255 = 0 := sel_eq (sel_and 255 (sel_ushr 24 (by decide) (sel_and ((cF_Memory_maskOf 1) <<< ((nI (1 * 8)) &&& 31)) (sel_shl 8 (by decide) (sel_self v))))) (sel_const v 0) (by decide +kernel)
  rw [ushr_or, A, B, or0r]
theorem pn_1_2_0 (C v : Int32) : (j_ushr ((C &&& (((cF_Memory_maskOf 1) <<< ((nI (2 * 8)) &&& 31)) ^^^ (-1))) ||| ((v <<< ((nI (2 * 8)) &&& 31)) &&& ((cF_Memory_maskOf 1) <<< ((nI (2 * 8)) &&& 31)))) (nI (0 * 8))) &&& 255 = ((j_ushr C (nI (0 * 8))) &&& 255) := by
  have A : (j_ushr (C &&& (((cF_Memory_maskOf 1) <<< ((nI (2 * 8)) &&& 31)) ^^^ (-1))) (nI (0 * 8))) &&& 255 = ((j_ushr C (nI (0 * 8))) &&& 255) := sel_eq (sel_and 255 (sel_ushr 0 (by decide) (sel_and (((cF_Memory_maskOf 1) <<< ((nI (2 * 8)) &&& 31)) ^^^ (-1)) (sel_self C)))) (sel_and 255 (sel_ushr 0 (by decide) (sel_self C))) (by decide +kernel)
  have B : (j_ushr ((v <<< ((nI (2 * 8)) &&& 31)) &&& ((cF_Memory_maskOf 1) <<< ((nI (2 * 8)) &&& 31))) (nI (0 * 8))) &&& 255 = 0 := sel_eq (sel_and 255 (sel_ushr 0 (by decide) (sel_and ((cF_Memory_maskOf 1) <<< ((nI (2 * 8)) &&& 31)) (sel_shl 16 (by decide) (sel_self v))))) (sel_const v 0) (by decide +kernel)
  rw [ushr_or, A, B, or0r]
theorem pn_1_2_1 (C v : Int32) : (j_ushr ((C &&& (((cF_Memory_maskOf 1) <<< ((nI (2 * 8)) &&& 31)) ^^^ (-1))) ||| ((v <<< ((nI (2 * 8)) &&& 31)) &&& ((cF_Memory_maskOf 1) <<< ((nI (2 * 8)) &&& 31)))) (nI (1 * 8))) &&& 255 = ((j_ushr C (nI (1 * 8))) &&& 255) := by
  have A : (j_ushr (C &&& (((cF_Memory_maskOf 1) <<< ((nI (2 * 8)) &&& 31)) ^^^ (-1))) (nI (1 * 8))) &&& 255 = ((j_ushr C (nI (1 * 8))) &&& 255) := sel_eq (sel_and 255 (sel_ushr 8 (by decide) (sel_and (((cF_Memory_maskOf 1) <<< ((nI (2 * 8)) &&& 31)) ^^^ (-1)) (sel_self C)))) (sel_and 255 (sel_ushr 8 (by decide) (sel_self C))) (by decide +kernel)
  have B : (j_ushr ((v <<< ((nI (2 * 8)) &&& 31)) &&& ((cF_Memory_maskOf 1) <<< ((nI (2 * 8)) &&& 31))) (nI (1 * 8))) &&& 255 = 0 := sel_eq (sel_and 255 (sel_ushr 8 (by decide) (sel_and ((cF_Memory_maskOf 1) <<< ((nI (2 * 8)) &&& 31)) (sel_shl 16 (by decide) (sel_self v))))) (sel_const v 0) (by decide +kernel)
  rw [ushr_or, A, B, or0r]
theorem pn_1_2_2 (C v : Int32) : (j_ushr ((C &&& (((cF_Memory_maskOf 1) <<< ((nI (2 * 8)) &&& 31)) ^^^ (-1))) ||| ((v <<< ((nI (2 * 8)) &&& 31)) &&& ((cF_Memory_maskOf 1) <<< ((nI (2 * 8)) &&& 31)))) (nI (2 * 8))) &&& 255 = ((v >>> ((0 : Int32) &&& 31)) &&& 255) := by
  have A : (j_ushr (C &&& (((cF_Memory_maskOf 1) <<< ((nI (2 * 8)) &&& 31)) ^^^ (-1))) (nI (2 * 8))) &&& 255 = 0 := sel_eq (sel_and 255 (sel_ushr 16 (by decide) (sel_and (((cF_Memory_maskOf 1) <<< ((nI (2 * 8)) &&& 31)) ^^^ (-1)) (sel_self C)))) (sel_const C 0) (by decide +kernel)
  have B : (j_ushr ((v <<< ((nI (2 * 8)) &&& 31)) &&& ((cF_Memory_maskOf 1) <<< ((nI (2 * 8)) &&& 31))) (nI (2 * 8))) &&& 255 = ((v >>> ((0 : Int32) &&& 31)) &&& 255) := sel_eq (sel_and 255 (sel_ushr 16 (by decide) (sel_and ((cF_Memory_maskOf 1) <<< ((nI (2 * 8)) &&& 31)) (sel_shl 16 (by decide) (sel_self v))))) (sel_and 255 (sel_sar 0 (by decide) (sel_self v))) (by decide +kernel)
  rw [ushr_or, A, B, or0l]
theorem pn_1_2_3 (C v : Int32) : (j_ushr ((C &&& (((cF_Memory_maskOf 1) <<< ((nI (2 * 8)) &&& 31)) ^^^ (-1))) ||| ((v <<< ((nI (2 * 8)) &&& 31)) &&& ((cF_Memory_maskOf 1) <<< ((nI (2 * 8)) &&& 31)))) (nI (3 * 8))) &&& 255 = ((j_ushr C (nI (3 * 8))) &&& 255) := by
  have A : (j_ushr (C &&& (((cF_Memory_maskOf 1) <<< ((nI (2 * 8)) &&& 31)) ^^^ (-1))) (nI (3 * 8))) &&& 255 = ((j_ushr C (nI (3 * 8))) &&& 255) := sel_eq (sel_and 255 (sel_ushr 24 (by decide) (sel_and (((cF_Memory_maskOf 1) <<< ((nI (2 * 8)) &&& 31)) ^^^ (-1)) (sel_self C)))) (sel_and 255 (sel_ushr 24 (by decide) (sel_self C))) (by decide +kernel)
  have B : (j_ushr ((v <<< ((nI (2 * 8)) &&& 31)) &&& ((cF_Memory_maskOf 1) <<< ((nI (2 * 8)) &&& 31))) (nI (3 * 8))) &&& 255 = 0 := sel_eq (sel_and 255 (sel_ushr 24 (by decide) (sel_and ((cF_Memory_maskOf 1) <<< ((nI (2 * 8)) &&& 31)) (sel_shl 16 (by decide) (sel_self v))))) (sel_const v 0) (by decide +kernel)
  rw [ushr_or, A, B, or0r]
theorem pn_1_3_0 (C v : Int32) : (j_ushr ((C &&& (((cF_Memory_maskOf 1) <<< ((nI (3 * 8)) &&& 31)) ^^^ (-1))) ||| ((v <<< ((nI (3 * 8)) &&& 31)) &&& ((cF_Memory_maskOf 1) <<< ((nI (3 * 8)) &&& 31)))) (nI (0 * 8))) &&& 255 = ((j_ushr C (nI (0 * 8))) &&& 255) := by
  have A : (j_ushr (C &&& (((cF_Memory_maskOf 1) <<< ((nI (3 * 8)) &&& 31)) ^^^ (-1))) (nI (0 * 8))) &&& 255 = ((j_ushr C (nI (0 * 8))) &&& 255) := sel_eq (sel_and 255 (sel_ushr 0 (by decide) (sel_and (((cF_Memory_maskOf 1) <<< ((nI (3 * 8)) &&& 31)) ^^^ (-1)) (sel_self C)))) (sel_and 255 (sel_ushr 0 (by decide) (sel_self C))) (by decide +kernel)
  have B : (j_ushr ((v <<< ((nI (3 * 8)) &&& 31)) &&& ((cF_Memory_maskOf 1) <<< ((nI (3 * 8)) &&& 31))) (nI (0 * 8))) &&& 255 = 0 := sel_eq (sel_and 255 (sel_ushr 0 (by decide) (sel_and ((cF_Memory_maskOf 1) <<< ((nI (3 * 8)) &&& 31)) (sel_shl 24 (by decide) (sel_self v))))) (sel_const v 0) (by decide +kernel)
  rw [ushr_or, A, B, or0r]
theorem pn_1_3_1 (C v : Int32) : (j_ushr ((C &&& (((cF_Memory_maskOf 1) <<< ((nI (3 * 8)) &&& 31)) ^^^ (-1))) ||| ((v <<< ((nI (3 * 8)) &&& 31)) &&& ((cF_Memory_maskOf 1) <<< ((nI (3 * 8)) &&& 31)))) (nI (1 * 8))) &&& 255 = ((j_ushr C (nI (1 * 8))) &&& 255) := by
  have A : (j_ushr (C &&& (((cF_Memory_maskOf 1) <<< ((nI (3 * 8)) &&& 31)) ^^^ (-1))) (nI (1 * 8))) &&& 255 = ((j_ushr C (nI (1 * 8))) &&& 255) := sel_eq (sel_and 255 (sel_ushr 8 (by decide) (sel_and (((cF_Memory_maskOf 1) <<< ((nI (3 * 8)) &&& 31)) ^^^ (-1)) (sel_self C)))) (sel_and 255 (sel_ushr 8 (by decide) (sel_self C))) (by decide +kernel)
  have B : (j_ushr ((v <<< ((nI (3 * 8)) &&& 31)) &&& ((cF_Memory_maskOf 1) <<< ((nI (3 * 8)) &&& 31))) (nI (1 * 8))) &&& 255 = 0 := sel_eq (sel_and 255 (sel_ushr 8 (by decide) (sel_and ((cF_Memory_maskOf 1) <<< ((nI (3 * 8)) &&& 31)) (sel_shl 24 (by decide) (sel_self v))))) (sel_const v 0) (by decide +kernel)
  rw [ushr_or, A, B, or0r]
theorem pn_1_3_2 (C v : Int32) : (j_ushr ((C &&& (((cF_Memory_maskOf 1) <<< ((nI (3 * 8)) &&& 31)) ^^^ (-1))) ||| ((v <<< ((nI (3 * 8)) &&& 31)) &&& ((cF_Memory_maskOf 1) <<< ((nI (3 * 8)) &&& 31)))) (nI (2 * 8))) &&& 255 = ((j_ushr C (nI (2 * 8))) &&& 255) := by
  have A : (j_ushr (C &&& (((cF_Memory_maskOf 1) <<< ((nI (3 * 8)) &&& 31)) ^^^ (-1))) (nI (2 * 8))) &&& 255 = ((j_ushr C (nI (2 * 8))) &&& 255) := sel_eq (sel_and 255 (sel_ushr 16 (by decide) (sel_and (((cF_Memory_maskOf 1) <<< ((nI (3 * 8)) &&& 31)) ^^^ (-1)) (sel_self C)))) (sel_and 255 (sel_ushr 16 (by decide) (sel_self C))) (by decide +kernel)
  have B : (j_ushr ((v <<< ((nI (3 * 8)) &&& 31)) &&& ((cF_Memory_maskOf 1) <<< ((nI (3 * 8)) &&& 31))) (nI (2 * 8))) &&& 255 = 0 := sel_eq (sel_and 255 (sel_ushr 16 (by decide) (sel_and ((cF_Memory_maskOf 1) <<< ((nI (3 * 8)) &&& 31)) (sel_shl 24 (by decide) (sel_self v))))) (sel_const v 0) (by decide +kernel)
  rw [ushr_or, A, B, or0r]
theorem pn_1_3_3 (C v : Int32) : (j_ushr ((C &&& (((cF_Memory_maskOf 1) <<< ((nI (3 * 8)) &&& 31)) ^^^ (-1))) ||| ((v <<< ((nI (3 * 8)) &&& 31)) &&& ((cF_Memory_maskOf 1) <<< ((nI (3 * 8)) &&& 31)))) (nI (3 * 8))) &&& 255 = ((v >>> ((0 : Int32) &&& 31)) &&& 255) := by
  have A : (j_ushr (C &&& (((cF_Memory_maskOf 1) <<< ((nI (3 * 8)) &&& 31)) ^^^ (-1))) (nI (3 * 8))) &&& 255 = 0 := sel_eq (sel_and 255 (sel_ushr 24 (by decide) (sel_and (((cF_Memory_maskOf 1) <<< ((nI (3 * 8)) &&& 31)) ^^^ (-1)) (sel_self C)))) (sel_const C 0) (by decide +kernel)
  have B : (j_ushr ((v <<< ((nI (3 * 8)) &&& 31)) &&& ((cF_Memory_maskOf 1) <<< ((nI (3 * 8)) &&& 31))) (nI (3 * 8))) &&& 255 = ((v >>> ((0 : Int32) &&& 31)) &&& 255) := sel_eq (sel_and 255 (sel_ushr 24 (by decide) (sel_and ((cF_Memory_maskOf 1) <<< ((nI (3 * 8)) &&& 31)) (sel_shl 24 (by decide) (sel_self v))))) (sel_and 255 (sel_sar 0 (by decide) (sel_self v))) (by decide +kernel)
  rw [ushr_or, A, B, or0l]
theorem pn_2_0_0 (C v : Int32) : (j_ushr ((C &&& (((cF_Memory_maskOf 2) <<< ((nI (0 * 8)) &&& 31)) ^^^ (-1))) ||| ((v <<< ((nI (0 * 8)) &&& 31)) &&& ((cF_Memory_maskOf 2) <<< ((nI (0 * 8)) &&& 31)))) (nI (0 * 8))) &&& 255 = ((v >>> ((0 : Int32) &&& 31)) &&& 255) := by
  have A : (j_ushr (C &&& (((cF_Memory_maskOf 2) <<< ((nI (0 * 8)) &&& 31)) ^^^ (-1))) (nI (0 * 8))) &&& 255 = 0 := sel_eq (sel_and 255 (sel_ushr 0 (by decide) (sel_and (((cF_Memory_maskOf 2) <<< ((nI (0 * 8)) &&& 31)) ^^^ (-1)) (sel_self C)))) (sel_const C 0) (by decide +kernel)
  have B : (j_ushr ((v <<< ((nI (0 * 8)) &&& 31)) &&& ((cF_Memory_maskOf 2) <<< ((nI (0 * 8)) &&& 31))) (nI (0 * 8))) &&& 255 = ((v >>> ((0 : Int32) &&& 31)) &&& 255) := sel_eq (sel_and 255 (sel_ushr 0 (by decide) (sel_and ((cF_Memory_maskOf 2) <<< ((nI (0 * 8)) &&& 31)) (sel_shl 0 (by decide) (sel_self v))))) (sel_and 255 (sel_sar 0 (by decide) (sel_self v))) (by decide +kernel)
  rw [ushr_or, A, B, or0l]
theorem pn_2_0_1 (C v : Int32) : (j_ushr ((C &&& (((cF_Memory_maskOf 2) <<< ((nI (0 * 8)) &&& 31)) ^^^ (-1))) ||| ((v <<< ((nI (0 * 8)) &&& 31)) &&& ((cF_Memory_maskOf 2) <<< ((nI (0 * 8)) &&& 31)))) (nI (1 * 8))) &&& 255 = ((v >>> ((8 : Int32) &&& 31)) &&& 255) := by
  have A : (j_ushr (C &&& (((cF_Memory_maskOf 2) <<< ((nI (0 * 8)) &&& 31)) ^^^ (-1))) (nI (1 * 8))) &&& 255 = 0 := sel_eq (sel_and 255 (sel_ushr 8 (by decide) (sel_and (((cF_Memory_maskOf 2) <<< ((nI (0 * 8)) &&& 31)) ^^^ (-1)) (sel_self C)))) (sel_const C 0) (by decide +kernel)
  have B : (j_ushr ((v <<< ((nI (0 * 8)) &&& 31)) &&& ((cF_Memory_maskOf 2) <<< ((nI (0 * 8)) &&& 31))) (nI (1 * 8))) &&& 255 = ((v >>> ((8 : Int32) &&& 31)) &&& 255) := sel_eq (sel_and 255 (sel_ushr 8 (by decide) (sel_and ((cF_Memory_maskOf 2) <<< ((nI (0 * 8)) &&& 31)) (sel_shl 0 (by decide) (sel_self v))))) (sel_and 255 (sel_sar 8 (by decide) (sel_self v))) (by decide +kernel)
  rw [ushr_or, A, B, or0l]
theorem pn_2_0_2 (C v : Int32) : (j_ushr ((C &&& (((cF_Memory_maskOf 2) <<< ((nI (0 * 8)) &&& 31)) ^^^ (-1))) ||| ((v <<< ((nI (0 * 8)) &&& 31)) &&& ((cF_Memory_maskOf 2) <<< ((nI (0 * 8)) &&& 31)))) (nI (2 * 8))) &&& 255 = ((j_ushr C (nI (2 * 8))) &&& 255) := by
  have A : (j_ushr (C &&& (((cF_Memory_maskOf 2) <<< ((nI (0 * 8)) &&& 31)) ^^^ (-1))) (nI (2 * 8))) &&& 255 = ((j_ushr C (nI (2 * 8))) &&& 255) := sel_eq (sel_and 255 (sel_ushr 16 (by decide) (sel_and (((cF_Memory_maskOf 2) <<< ((nI (0 * 8)) &&& 31)) ^^^ (-1)) (sel_self C)))) (sel_and 255 (sel_ushr 16 (by decide) (sel_self C))) (by decide +kernel)
  have B : (j_ushr ((v <<< ((nI (0 * 8)) &&& 31)) &&& ((cF_Memory_maskOf 2) <<< ((nI (0 * 8)) &&& 31))) (nI (2 * 8))) &&& 255 = 0 := sel_eq (sel_and 255 (sel_ushr 16 (by decide) (sel_and ((cF_Memory_maskOf 2) <<< ((nI (0 * 8)) &&& 31)) (sel_shl 0 (by decide) (sel_self v))))) (sel_const v 0) (by decide +kernel)
  rw [ushr_or, A, B, or0r]
theorem pn_2_0_3 (C v : Int32) : (j_ushr ((C &&& (((cF_Memory_maskOf 2) <<< ((nI (0 * 8)) &&& 31)) ^^^ (-1))) ||| ((v <<< ((nI (0 * 8)) &&& 31)) &&& ((cF_Memory_maskOf 2) <<< ((nI (0 * 8)) &&& 31)))) (nI (3 * 8))) &&& 255 = ((j_ushr C (nI (3 * 8))) &&& 255) := by
  have A : (j_ushr (C &&& (((cF_Memory_maskOf 2) <<< ((nI (0 * 8)) &&& 31)) ^^^ (-1))) (nI (3 * 8))) &&& 255 = ((j_ushr C (nI (3 * 8))) &&& 255) := sel_eq (sel_and 255 (sel_ushr 24 (by decide) (sel_and (((cF_Memory_maskOf 2) <<< ((nI (0 * 8)) &&& 31)) ^^^ (-1)) (sel_self C)))) (sel_and 255 (sel_ushr 24 (by decide) (sel_self C))) (by decide +kernel)
  have B : (j_ushr ((v <<< ((nI (0 * 8)) &&& 31)) &&& ((cF_Memory_maskOf 2) <<< ((nI (0 * 8)) &&& 31))) (nI (3 * 8))) &&& 255 = 0 := sel_eq (sel_and 255 (sel_ushr 24 (by decide) (sel_and ((cF_Memory_maskOf 2) <<< ((nI (0 * 8)) &&& 31)) (sel_shl 0 (by decide) (sel_self v))))) (sel_const v 0) (by decide +kernel)
  rw [ushr_or, A, B, or0r]
theorem pn_2_2_0 (C v : Int32) : (j_ushr ((C &&& (((cF_Memory_maskOf 2) <<< ((nI (2 * 8)) &&& 31)) ^^^ (-1))) ||| ((v <<< ((nI (2 * 8)) &&& 31)) &&& ((cF_Memory_maskOf 2) <<< ((nI (2 * 8)) &&& 31)))) (nI (0 * 8))) &&& 255 = ((j_ushr C (nI (0 * 8))) &&& 255) := by
  have A : (j_ushr (C &&& (((cF_Memory_maskOf 2) <<< ((nI (2 * 8)) &&& 31)) ^^^ (-1))) (nI (0 * 8))) &&& 255 = ((j_ushr C (nI (0 * 8))) &&& 255) := sel_eq (sel_and 255 (sel_ushr 0 (by decide) (sel_and (((cF_Memory_maskOf 2) <<< ((nI (2 * 8)) &&& 31)) ^^^ (-1)) (sel_self C)))) (sel_and 255 (sel_ushr 0 (by decide) (sel_self C))) (by decide +kernel)
  have B : (j_ushr ((v <<< ((nI (2 * 8)) &&& 31)) &&& ((cF_Memory_maskOf 2) <<< ((nI (2 * 8)) &&& 31))) (nI (0 * 8))) &&& 255 = 0 := sel_eq (sel_and 255 (sel_ushr 0 (by decide) (sel_and ((cF_Memory_maskOf 2) <<< ((nI (2 * 8)) &&& 31)) (sel_shl 16 (by decide) (sel_self v))))) (sel_const v 0) (by decide +kernel)
  rw [ushr_or, A, B, or0r]
theorem pn_2_2_1 (C v : Int32) : (j_ushr ((C &&& (((cF_Memory_maskOf 2) <<< ((nI (2 * 8)) &&& 31)) ^^^ (-1))) ||| ((v <<< ((nI (2 * 8)) &&& 31)) &&& ((cF_Memory_maskOf 2) <<< ((nI (2 * 8)) &&& 31)))) (nI (1 * 8))) &&& 255 = ((j_ushr C (nI (1 * 8))) &&& 255) := by
  have A : (j_ushr (C &&& (((cF_Memory_maskOf 2) <<< ((nI (2 * 8)) &&& 31)) ^^^ (-1))) (nI (1 * 8))) &&& 255 = ((j_ushr C (nI (1 * 8))) &&& 255) := sel_eq (sel_and 255 (sel_ushr 8 (by decide) (sel_and (((cF_Memory_maskOf 2) <<< ((nI (2 * 8)) &&& 31)) ^^^ (-1)) (sel_self C)))) (sel_and 255 (sel_ushr 8 (by decide) (sel_self C))) (by decide +kernel)
  have B : (j_ushr ((v <<< ((nI (2 * 8)) &&& 31)) &&& ((cF_Memory_maskOf 2) <<< ((nI (2 * 8)) &&& 31))) (nI (1 * 8))) &&& 255 = 0 := sel_eq (sel_and 255 (sel_ushr 8 (by decide) (sel_and ((cF_Memory_maskOf 2) <<< ((nI (2 * 8)) &&& 31)) (sel_shl 16 (by decide) (sel_self v))))) (sel_const v 0) (by decide +kernel)
  rw [ushr_or, A, B, or0r]
theorem pn_2_2_2 (C v : Int32) : (j_ushr ((C &&& (((cF_Memory_maskOf 2) <<< ((nI (2 * 8)) &&& 31)) ^^^ (-1))) ||| ((v <<< ((nI (2 * 8)) &&& 31)) &&& ((cF_Memory_maskOf 2) <<< ((nI (2 * 8)) &&& 31)))) (nI (2 * 8))) &&& 255 = ((v >>> ((0 : Int32) &&& 31)) &&& 255) := by
  have A : (j_ushr (C &&& (((cF_Memory_maskOf 2) <<< ((nI (2 * 8)) &&& 31)) ^^^ (-1))) (nI (2 * 8))) &&& 255 = 0 := sel_eq (sel_and 255 (sel_ushr 16 (by decide) (sel_and (((cF_Memory_maskOf 2) <<< ((nI (2 * 8)) &&& 31)) ^^^ (-1)) (sel_self C)))) (sel_const C 0) (by decide +kernel)
  have B : (j_ushr ((v <<< ((nI (2 * 8)) &&& 31)) &&& ((cF_Memory_maskOf 2) <<< ((nI (2 * 8)) &&& 31))) (nI (2 * 8))) &&& 255 = ((v >>> ((0 : Int32) &&& 31)) &&& 255) := sel_eq (sel_and 255 (sel_ushr 16 (by decide) (sel_and ((cF_Memory_maskOf 2) <<< ((nI (2 * 8)) &&& 31)) (sel_shl 16 (by decide) (sel_self v))))) (sel_and 255 (sel_sar 0 (by decide) (sel_self v))) (by decide +kernel)
  rw [ushr_or, A, B, or0l]
theorem pn_2_2_3 (C v : Int32) : (j_ushr ((C &&& (((cF_Memory_maskOf 2) <<< ((nI (2 * 8)) &&& 31)) ^^^ (-1))) ||| ((v <<< ((nI (2 * 8)) &&& 31)) &&& ((cF_Memory_maskOf 2) <<< ((nI (2 * 8)) &&& 31)))) (nI (3 * 8))) &&& 255 = ((v >>> ((8 : Int32) &&& 31)) &&& 255) := by
  have A : (j_ushr (C &&& (((cF_Memory_maskOf 2) <<< ((nI (2 * 8)) &&& 31)) ^^^ (-1))) (nI (3 * 8))) &&& 255 = 0 := sel_eq (sel_and 255 (sel_ushr 24 (by decide) (sel_and (((cF_Memory_maskOf 2) <<< ((nI (2 * 8)) &&& 31)) ^^^ (-1)) (sel_self C)))) (sel_const C 0) (by decide +kernel)
  have B : (j_ushr ((v <<< ((nI (2 * 8)) &&& 31)) &&& ((cF_Memory_maskOf 2) <<< ((nI (2 * 8)) &&& 31))) (nI (3 * 8))) &&& 255 = ((v >>> ((8 : Int32) &&& 31)) &&& 255) := sel_eq (sel_and 255 (sel_ushr 24 (by decide) (sel_and ((cF_Memory_maskOf 2) <<< ((nI (2 * 8)) &&& 31)) (sel_shl 16 (by decide) (sel_self v))))) (sel_and 255 (sel_sar 8 (by decide) (sel_self v))) (by decide +kernel)
  rw [ushr_or, A, B, or0l]
theorem pn_4_0_0 (C v : Int32) : (j_ushr ((C &&& (((cF_Memory_maskOf 4) <<< ((nI (0 * 8)) &&& 31)) ^^^ (-1))) ||| ((v <<< ((nI (0 * 8)) &&& 31)) &&& ((cF_Memory_maskOf 4) <<< ((nI (0 * 8)) &&& 31)))) (nI (0 * 8))) &&& 255 = ((v >>> ((0 : Int32) &&& 31)) &&& 255) := by
  have A : (j_ushr (C &&& (((cF_Memory_maskOf 4) <<< ((nI (0 * 8)) &&& 31)) ^^^ (-1))) (nI (0 * 8))) &&& 255 = 0 := sel_eq (sel_and 255 (sel_ushr 0 (by decide) (sel_and (((cF_Memory_maskOf 4) <<< ((nI (0 * 8)) &&& 31)) ^^^ (-1)) (sel_self C)))) (sel_const C 0) (by decide +kernel)
  have B : (j_ushr ((v <<< ((nI (0 * 8)) &&& 31)) &&& ((cF_Memory_maskOf 4) <<< ((nI (0 * 8)) &&& 31))) (nI (0 * 8))) &&& 255 = ((v >>> ((0 : Int32) &&& 31)) &&& 255) := sel_eq (sel_and 255 (sel_ushr 0 (by decide) (sel_and ((cF_Memory_maskOf 4) <<< ((nI (0 * 8)) &&& 31)) (sel_shl 0 (by decide) (sel_self v))))) (sel_and 255 (sel_sar 0 (by decide) (sel_self v))) (by decide +kernel)
  rw [ushr_or, A, B, or0l]
theorem pn_4_0_1 (C v : Int32) : (j_ushr ((C &&& (((cF_Memory_maskOf 4) <<< ((nI (0 * 8)) &&& 31)) ^^^ (-1))) ||| ((v <<< ((nI (0 * 8)) &&& 31)) &&& ((cF_Memory_maskOf 4) <<< ((nI (0 * 8)) &&& 31)))) (nI (1 * 8))) &&& 255 = ((v >>> ((8 : Int32) &&& 31)) &&& 255) := by
  have A : (j_ushr (C &&& (((cF_Memory_maskOf 4) <<< ((nI (0 * 8)) &&& 31)) ^^^ (-1))) (nI (1 * 8))) &&& 255 = 0 := sel_eq (sel_and 255 (sel_ushr 8 (by decide) (sel_and (((cF_Memory_maskOf 4) <<< ((nI (0 * 8)) &&& 31)) ^^^ (-1)) (sel_self C)))) (sel_const C 0) (by decide +kernel)
  have B : (j_ushr ((v <<< ((nI (0 * 8)) &&& 31)) &&& ((cF_Memory_maskOf 4) <<< ((nI (0 * 8)) &&& 31))) (nI (1 * 8))) &&& 255 = ((v >>> ((8 : Int32) &&& 31)) &&& 255) := sel_eq (sel_and 255 (sel_ushr 8 (by decide) (sel_and ((cF_Memory_maskOf 4) <<< ((nI (0 * 8)) &&& 31)) (sel_shl 0 (by decide) (sel_self v))))) (sel_and 255 (sel_sar 8 (by decide) (sel_self v))) (by decide +kernel)
  rw [ushr_or, A, B, or0l]
theorem pn_4_0_2 (C v : Int32) : (j_ushr ((C &&& (((cF_Memory_maskOf 4) <<< ((nI (0 * 8)) &&& 31)) ^^^ (-1))) ||| ((v <<< ((nI (0 * 8)) &&& 31)) &&& ((cF_Memory_maskOf 4) <<< ((nI (0 * 8)) &&& 31)))) (nI (2 * 8))) &&& 255 = ((v >>> ((16 : Int32) &&& 31)) &&& 255) := by
  have A : (j_ushr (C &&& (((cF_Memory_maskOf 4) <<< ((nI (0 * 8)) &&& 31)) ^^^ (-1))) (nI (2 * 8))) &&& 255 = 0 := sel_eq (sel_and 255 (sel_ushr 16 (by decide) (sel_and (((cF_Memory_maskOf 4) <<< ((nI (0 * 8)) &&& 31)) ^^^ (-1)) (sel_self C)))) (sel_const C 0) (by decide +kernel)
  have B : (j_ushr ((v <<< ((nI (0 * 8)) &&& 31)) &&& ((cF_Memory_maskOf 4) <<< ((nI (0 * 8)) &&& 31))) (nI (2 * 8))) &&& 255 = ((v >>> ((16 : Int32) &&& 31)) &&& 255) := sel_eq (sel_and 255 (sel_ushr 16 (by decide) (sel_and ((cF_Memory_maskOf 4) <<< ((nI (0 * 8)) &&& 31)) (sel_shl 0 (by decide) (sel_self v))))) (sel_and 255 (sel_sar 16 (by decide) (sel_self v))) (by decide +kernel)
  rw [ushr_or, A, B, or0l]
theorem pn_4_0_3 (C v : Int32) : (j_ushr ((C &&& (((cF_Memory_maskOf 4) <<< ((nI (0 * 8)) &&& 31)) ^^^ (-1))) ||| ((v <<< ((nI (0 * 8)) &&& 31)) &&& ((cF_Memory_maskOf 4) <<< ((nI (0 * 8)) &&& 31)))) (nI (3 * 8))) &&& 255 = ((v >>> ((24 : Int32) &&& 31)) &&& 255) := by
  have A : (j_ushr (C &&& (((cF_Memory_maskOf 4) <<< ((nI (0 * 8)) &&& 31)) ^^^ (-1))) (nI (3 * 8))) &&& 255 = 0 := sel_eq (sel_and 255 (sel_ushr 24 (by decide) (sel_and (((cF_Memory_maskOf 4) <<< ((nI (0 * 8)) &&& 31)) ^^^ (-1)) (sel_self C)))) (sel_const C 0) (by decide +kernel)
  have B : (j_ushr ((v <<< ((nI (0 * 8)) &&& 31)) &&& ((cF_Memory_maskOf 4) <<< ((nI (0 * 8)) &&& 31))) (nI (3 * 8))) &&& 255 = ((v >>> ((24 : Int32) &&& 31)) &&& 255) := sel_eq (sel_and 255 (sel_ushr 24 (by decide) (sel_and ((cF_Memory_maskOf 4) <<< ((nI (0 * 8)) &&& 31)) (sel_shl 0 (by decide) (sel_self v))))) (sel_and 255 (sel_sar 24 (by decide) (sel_self v))) (by decide +kernel)
  rw [ushr_or, A, B, or0l]
theorem st_u1 (m : Nat → Int32) (v : Int32) {a : Nat} (h : a + 1 ≤ 131072) : (mF_StepMachineModel_store_L47 (nI a) 1 v (((1 : Int32).toInt - (0 : Int32).toInt).toNat + 1) (0 : Int32) m).2 = (upd m (a + 0) ((v >>> ((0 : Int32) &&& 31)) &&& 255)) := by
  rw [show ((1 : Int32).toInt - (0 : Int32).toInt).toNat + 1 = 2 from by decide, mF_StepMachineModel_store_L47, if_neg (by decide), mF_StepMachineModel_store_L47, if_pos (by decide)]
  rw [show (nI a + (0 : Int32)).toNatClampNeg = a + 0 from ix_add (k := 0) (by omega)]
  rfl
theorem st_u2 (m : Nat → Int32) (v : Int32) {a : Nat} (h : a + 2 ≤ 131072) : (mF_StepMachineModel_store_L47 (nI a) 2 v (((2 : Int32).toInt - (0 : Int32).toInt).toNat + 1) (0 : Int32) m).2 = (upd (upd m (a + 0) ((v >>> ((0 : Int32) &&& 31)) &&& 255)) (a + 1) ((v >>> ((8 : Int32) &&& 31)) &&& 255)) := by
  rw [show ((2 : Int32).toInt - (0 : Int32).toInt).toNat + 1 = 3 from by decide, mF_StepMachineModel_store_L47, if_neg (by decide), mF_StepMachineModel_store_L47, if_neg (by decide), mF_StepMachineModel_store_L47, if_pos (by decide)]
  rw [show (nI a + (0 : Int32)).toNatClampNeg = a + 0 from ix_add (k := 0) (by omega), show (nI a + ((0 : Int32) + 1)).toNatClampNeg = a + 1 from ix_add (k := 1) (by omega)]
  rfl
theorem st_u4 (m : Nat → Int32) (v : Int32) {a : Nat} (h : a + 4 ≤ 131072) : (mF_StepMachineModel_store_L47 (nI a) 4 v (((4 : Int32).toInt - (0 : Int32).toInt).toNat + 1) (0 : Int32) m).2 = (upd (upd (upd (upd m (a + 0) ((v >>> ((0 : Int32) &&& 31)) &&& 255)) (a + 1) ((v >>> ((8 : Int32) &&& 31)) &&& 255)) (a + 2) ((v >>> ((16 : Int32) &&& 31)) &&& 255)) (a + 3) ((v >>> ((24 : Int32) &&& 31)) &&& 255)) := by
  rw [show ((4 : Int32).toInt - (0 : Int32).toInt).toNat + 1 = 5 from by decide, mF_StepMachineModel_store_L47, if_neg (by decide), mF_StepMachineModel_store_L47, if_neg (by decide), mF_StepMachineModel_store_L47, if_neg (by decide), mF_StepMachineModel_store_L47, if_neg (by decide), mF_StepMachineModel_store_L47, if_pos (by decide)]
  rw [show (nI a + (0 : Int32)).toNatClampNeg = a + 0 from ix_add (k := 0) (by omega), show (nI a + ((0 : Int32) + 1)).toNatClampNeg = a + 1 from ix_add (k := 1) (by omega), show (nI a + (((0 : Int32) + 1) + 1)).toNatClampNeg = a + 2 from ix_add (k := 2) (by omega), show (nI a + ((((0 : Int32) + 1) + 1) + 1)).toNatClampNeg = a + 3 from ix_add (k := 3) (by omega)]
  rfl
theorem put_of {c : Nat → Int32} {a : Nat} (h : a < 131072) (w v : Int32) : cF_Memory_putNumber c (nI a) w v = upd c (a / 4) (((c (a / 4)) &&& (((cF_Memory_maskOf w) <<< ((nI (a % 4 * 8)) &&& 31)) ^^^ (-1))) ||| ((v <<< ((nI (a % 4 * 8)) &&& 31)) &&& ((cF_Memory_maskOf w) <<< ((nI (a % 4 * 8)) &&& 31)))) := by
  rw [cF_Memory_putNumber, cF_Memory_putNumber_1, cF_Memory_putCell, if_neg (has_of h), cix_of h, cellOf_of h, sh_of h]
theorem put_1 {c m : Nat → Int32} (hm : Rm c m) (v : Int32) {a : Nat} (h : a + 1 ≤ 131072) : Rm (cF_Memory_putNumber c (nI a) 1 v) (upd m (a + 0) ((v >>> ((0 : Int32) &&& 31)) &&& 255)) := by
  intro j
  rw [put_of (by omega)]
  unfold byteAt
  by_cases hj : j / 4 = a / 4
  · rw [hj, pk_us]
    rcases (show a % 4 = 0 ∨ a % 4 = 1 ∨ a % 4 = 2 ∨ a % 4 = 3 by omega) with e | e | e | e
    · rcases (show j % 4 = 0 ∨ j % 4 = 1 ∨ j % 4 = 2 ∨ j % 4 = 3 by omega) with f | f | f | f
      · rw [e, f, pn_1_0_0, show j = a + 0 by omega, pk_us]
      · rw [pk_un (show j ≠ a + 0 by omega), e, f, pn_1_0_1, hm j]
        unfold byteAt
        rw [hj, f]
      · rw [pk_un (show j ≠ a + 0 by omega), e, f, pn_1_0_2, hm j]
        unfold byteAt
        rw [hj, f]
      · rw [pk_un (show j ≠ a + 0 by omega), e, f, pn_1_0_3, hm j]
        unfold byteAt
        rw [hj, f]
    · rcases (show j % 4 = 0 ∨ j % 4 = 1 ∨ j % 4 = 2 ∨ j % 4 = 3 by omega) with f | f | f | f
      · rw [pk_un (show j ≠ a + 0 by omega), e, f, pn_1_1_0, hm j]
        unfold byteAt
        rw [hj, f]
      · rw [e, f, pn_1_1_1, show j = a + 0 by omega, pk_us]
      · rw [pk_un (show j ≠ a + 0 by omega), e, f, pn_1_1_2, hm j]
        unfold byteAt
        rw [hj, f]
      · rw [pk_un (show j ≠ a + 0 by omega), e, f, pn_1_1_3, hm j]
        unfold byteAt
        rw [hj, f]
    · rcases (show j % 4 = 0 ∨ j % 4 = 1 ∨ j % 4 = 2 ∨ j % 4 = 3 by omega) with f | f | f | f
      · rw [pk_un (show j ≠ a + 0 by omega), e, f, pn_1_2_0, hm j]
        unfold byteAt
        rw [hj, f]
      · rw [pk_un (show j ≠ a + 0 by omega), e, f, pn_1_2_1, hm j]
        unfold byteAt
        rw [hj, f]
      · rw [e, f, pn_1_2_2, show j = a + 0 by omega, pk_us]
      · rw [pk_un (show j ≠ a + 0 by omega), e, f, pn_1_2_3, hm j]
        unfold byteAt
        rw [hj, f]
    · rcases (show j % 4 = 0 ∨ j % 4 = 1 ∨ j % 4 = 2 ∨ j % 4 = 3 by omega) with f | f | f | f
      · rw [pk_un (show j ≠ a + 0 by omega), e, f, pn_1_3_0, hm j]
        unfold byteAt
        rw [hj, f]
      · rw [pk_un (show j ≠ a + 0 by omega), e, f, pn_1_3_1, hm j]
        unfold byteAt
        rw [hj, f]
      · rw [pk_un (show j ≠ a + 0 by omega), e, f, pn_1_3_2, hm j]
        unfold byteAt
        rw [hj, f]
      · rw [e, f, pn_1_3_3, show j = a + 0 by omega, pk_us]
  · rw [pk_un hj, pk_un (show j ≠ a + 0 by omega), hm j]
    rfl
theorem put_2 {c m : Nat → Int32} (hm : Rm c m) (v : Int32) {a : Nat} (h : a + 2 ≤ 131072) (ha : a % 2 = 0) : Rm (cF_Memory_putNumber c (nI a) 2 v) (upd (upd m (a + 0) ((v >>> ((0 : Int32) &&& 31)) &&& 255)) (a + 1) ((v >>> ((8 : Int32) &&& 31)) &&& 255)) := by
  intro j
  rw [put_of (by omega)]
  unfold byteAt
  by_cases hj : j / 4 = a / 4
  · rw [hj, pk_us]
    rcases (show a % 4 = 0 ∨ a % 4 = 2 by omega) with e | e
    · rcases (show j % 4 = 0 ∨ j % 4 = 1 ∨ j % 4 = 2 ∨ j % 4 = 3 by omega) with f | f | f | f
      · rw [pk_un (show j ≠ a + 1 by omega)]; rw [e, f, pn_2_0_0, show j = a + 0 by omega, pk_us]
      · rw [e, f, pn_2_0_1, show j = a + 1 by omega, pk_us]
      · rw [pk_un (show j ≠ a + 1 by omega), pk_un (show j ≠ a + 0 by omega), e, f, pn_2_0_2, hm j]
        unfold byteAt
        rw [hj, f]
      · rw [pk_un (show j ≠ a + 1 by omega), pk_un (show j ≠ a + 0 by omega), e, f, pn_2_0_3, hm j]
        unfold byteAt
        rw [hj, f]
    · rcases (show j % 4 = 0 ∨ j % 4 = 1 ∨ j % 4 = 2 ∨ j % 4 = 3 by omega) with f | f | f | f
      · rw [pk_un (show j ≠ a + 1 by omega), pk_un (show j ≠ a + 0 by omega), e, f, pn_2_2_0, hm j]
        unfold byteAt
        rw [hj, f]
      · rw [pk_un (show j ≠ a + 1 by omega), pk_un (show j ≠ a + 0 by omega), e, f, pn_2_2_1, hm j]
        unfold byteAt
        rw [hj, f]
      · rw [pk_un (show j ≠ a + 1 by omega)]; rw [e, f, pn_2_2_2, show j = a + 0 by omega, pk_us]
      · rw [e, f, pn_2_2_3, show j = a + 1 by omega, pk_us]
  · rw [pk_un hj, pk_un (show j ≠ a + 1 by omega), pk_un (show j ≠ a + 0 by omega), hm j]
    rfl
theorem put_4 {c m : Nat → Int32} (hm : Rm c m) (v : Int32) {a : Nat} (h : a + 4 ≤ 131072) (ha : a % 4 = 0) : Rm (cF_Memory_putNumber c (nI a) 4 v) (upd (upd (upd (upd m (a + 0) ((v >>> ((0 : Int32) &&& 31)) &&& 255)) (a + 1) ((v >>> ((8 : Int32) &&& 31)) &&& 255)) (a + 2) ((v >>> ((16 : Int32) &&& 31)) &&& 255)) (a + 3) ((v >>> ((24 : Int32) &&& 31)) &&& 255)) := by
  intro j
  rw [put_of (by omega)]
  unfold byteAt
  by_cases hj : j / 4 = a / 4
  · rw [hj, pk_us]
    rcases (show a % 4 = 0 by omega) with e
    · rcases (show j % 4 = 0 ∨ j % 4 = 1 ∨ j % 4 = 2 ∨ j % 4 = 3 by omega) with f | f | f | f
      · rw [pk_un (show j ≠ a + 3 by omega)]; rw [pk_un (show j ≠ a + 2 by omega)]; rw [pk_un (show j ≠ a + 1 by omega)]; rw [e, f, pn_4_0_0, show j = a + 0 by omega, pk_us]
      · rw [pk_un (show j ≠ a + 3 by omega)]; rw [pk_un (show j ≠ a + 2 by omega)]; rw [e, f, pn_4_0_1, show j = a + 1 by omega, pk_us]
      · rw [pk_un (show j ≠ a + 3 by omega)]; rw [e, f, pn_4_0_2, show j = a + 2 by omega, pk_us]
      · rw [e, f, pn_4_0_3, show j = a + 3 by omega, pk_us]
  · rw [pk_un hj, pk_un (show j ≠ a + 3 by omega), pk_un (show j ≠ a + 2 by omega), pk_un (show j ≠ a + 1 by omega), pk_un (show j ≠ a + 0 by omega), hm j]
    rfl
theorem ub_1_0_0 (W : Int32) : (((j_ushr W (nI (0 * 8))) &&& 255) >>> ((0 : Int32) &&& 31)) &&& 255 = ((j_ushr W (nI (0 * 8))) &&& 255) := sel_eq (sel_and 255 (sel_sar 0 (by decide) (sel_and 255 (sel_ushr 0 (by decide) (sel_self W))))) (sel_and 255 (sel_ushr 0 (by decide) (sel_self W))) (by decide +kernel)
theorem ub_1_1_0 (W : Int32) : (((j_ushr W (nI (1 * 8))) &&& 255) >>> ((0 : Int32) &&& 31)) &&& 255 = ((j_ushr W (nI (1 * 8))) &&& 255) := sel_eq (sel_and 255 (sel_sar 0 (by decide) (sel_and 255 (sel_ushr 8 (by decide) (sel_self W))))) (sel_and 255 (sel_ushr 8 (by decide) (sel_self W))) (by decide +kernel)
theorem ub_1_2_0 (W : Int32) : (((j_ushr W (nI (2 * 8))) &&& 255) >>> ((0 : Int32) &&& 31)) &&& 255 = ((j_ushr W (nI (2 * 8))) &&& 255) := sel_eq (sel_and 255 (sel_sar 0 (by decide) (sel_and 255 (sel_ushr 16 (by decide) (sel_self W))))) (sel_and 255 (sel_ushr 16 (by decide) (sel_self W))) (by decide +kernel)
theorem ub_1_3_0 (W : Int32) : (((j_ushr W (nI (3 * 8))) &&& 255) >>> ((0 : Int32) &&& 31)) &&& 255 = ((j_ushr W (nI (3 * 8))) &&& 255) := sel_eq (sel_and 255 (sel_sar 0 (by decide) (sel_and 255 (sel_ushr 24 (by decide) (sel_self W))))) (sel_and 255 (sel_ushr 24 (by decide) (sel_self W))) (by decide +kernel)
theorem ub_2_0_0 (W : Int32) : (((j_ushr W (nI (0 * 8))) &&& 65535) >>> ((0 : Int32) &&& 31)) &&& 255 = ((j_ushr W (nI (0 * 8))) &&& 255) := sel_eq (sel_and 255 (sel_sar 0 (by decide) (sel_and 65535 (sel_ushr 0 (by decide) (sel_self W))))) (sel_and 255 (sel_ushr 0 (by decide) (sel_self W))) (by decide +kernel)
theorem ub_2_0_1 (W : Int32) : (((j_ushr W (nI (0 * 8))) &&& 65535) >>> ((8 : Int32) &&& 31)) &&& 255 = ((j_ushr W (nI (1 * 8))) &&& 255) := sel_eq (sel_and 255 (sel_sar 8 (by decide) (sel_and 65535 (sel_ushr 0 (by decide) (sel_self W))))) (sel_and 255 (sel_ushr 8 (by decide) (sel_self W))) (by decide +kernel)
theorem ub_2_2_0 (W : Int32) : (((j_ushr W (nI (2 * 8))) &&& 65535) >>> ((0 : Int32) &&& 31)) &&& 255 = ((j_ushr W (nI (2 * 8))) &&& 255) := sel_eq (sel_and 255 (sel_sar 0 (by decide) (sel_and 65535 (sel_ushr 16 (by decide) (sel_self W))))) (sel_and 255 (sel_ushr 16 (by decide) (sel_self W))) (by decide +kernel)
theorem ub_2_2_1 (W : Int32) : (((j_ushr W (nI (2 * 8))) &&& 65535) >>> ((8 : Int32) &&& 31)) &&& 255 = ((j_ushr W (nI (3 * 8))) &&& 255) := sel_eq (sel_and 255 (sel_sar 8 (by decide) (sel_and 65535 (sel_ushr 16 (by decide) (sel_self W))))) (sel_and 255 (sel_ushr 24 (by decide) (sel_self W))) (by decide +kernel)
theorem ub_4_0_0 (W : Int32) : (((j_ushr W (nI (0 * 8))) &&& (-1)) >>> ((0 : Int32) &&& 31)) &&& 255 = ((j_ushr W (nI (0 * 8))) &&& 255) := sel_eq (sel_and 255 (sel_sar 0 (by decide) (sel_and (-1) (sel_ushr 0 (by decide) (sel_self W))))) (sel_and 255 (sel_ushr 0 (by decide) (sel_self W))) (by decide +kernel)
theorem ub_4_0_1 (W : Int32) : (((j_ushr W (nI (0 * 8))) &&& (-1)) >>> ((8 : Int32) &&& 31)) &&& 255 = ((j_ushr W (nI (1 * 8))) &&& 255) := sel_eq (sel_and 255 (sel_sar 8 (by decide) (sel_and (-1) (sel_ushr 0 (by decide) (sel_self W))))) (sel_and 255 (sel_ushr 8 (by decide) (sel_self W))) (by decide +kernel)
theorem ub_4_0_2 (W : Int32) : (((j_ushr W (nI (0 * 8))) &&& (-1)) >>> ((16 : Int32) &&& 31)) &&& 255 = ((j_ushr W (nI (2 * 8))) &&& 255) := sel_eq (sel_and 255 (sel_sar 16 (by decide) (sel_and (-1) (sel_ushr 0 (by decide) (sel_self W))))) (sel_and 255 (sel_ushr 16 (by decide) (sel_self W))) (by decide +kernel)
theorem ub_4_0_3 (W : Int32) : (((j_ushr W (nI (0 * 8))) &&& (-1)) >>> ((24 : Int32) &&& 31)) &&& 255 = ((j_ushr W (nI (3 * 8))) &&& 255) := sel_eq (sel_and 255 (sel_sar 24 (by decide) (sel_and (-1) (sel_ushr 0 (by decide) (sel_self W))))) (sel_and 255 (sel_ushr 24 (by decide) (sel_self W))) (by decide +kernel)
theorem ux_1_0 {c m : Nat → Int32} (hm : Rm c m) {a : Nat} (h : a + 1 ≤ 131072) : ((mF_StepMachineModel_fetched m (nI a) 1) >>> ((0 : Int32) &&& 31)) &&& 255 = m (a + 0) := by
  rw [← num_1 hm h, num_of (by omega), mask1, hm (a + 0)]
  unfold byteAt
  rcases (show a % 4 = 0 ∨ a % 4 = 1 ∨ a % 4 = 2 ∨ a % 4 = 3 by omega) with e | e | e | e
  · rw [show (a + 0) / 4 = a / 4 by omega, show (a + 0) % 4 = 0 by omega, e]
    exact ub_1_0_0 _
  · rw [show (a + 0) / 4 = a / 4 by omega, show (a + 0) % 4 = 1 by omega, e]
    exact ub_1_1_0 _
  · rw [show (a + 0) / 4 = a / 4 by omega, show (a + 0) % 4 = 2 by omega, e]
    exact ub_1_2_0 _
  · rw [show (a + 0) / 4 = a / 4 by omega, show (a + 0) % 4 = 3 by omega, e]
    exact ub_1_3_0 _
theorem undo_1 {c m : Nat → Int32} (hm : Rm c m) (v : Int32) {a : Nat} (h : a + 1 ≤ 131072) : (upd (upd m (a + 0) ((v >>> ((0 : Int32) &&& 31)) &&& 255)) (a + 0) (((mF_StepMachineModel_fetched m (nI a) 1) >>> ((0 : Int32) &&& 31)) &&& 255)) = m := by
  funext j
  by_cases q0 : j = a + 0
  · rw [q0, pk_us, ux_1_0 hm h]
  · rw [pk_un q0]
    rw [pk_un q0]
theorem ux_2_0 {c m : Nat → Int32} (hm : Rm c m) {a : Nat} (h : a + 2 ≤ 131072) (ha : a % 2 = 0) : ((mF_StepMachineModel_fetched m (nI a) 2) >>> ((0 : Int32) &&& 31)) &&& 255 = m (a + 0) := by
  rw [← num_2 hm h ha, num_of (by omega), mask2, hm (a + 0)]
  unfold byteAt
  rcases (show a % 4 = 0 ∨ a % 4 = 2 by omega) with e | e
  · rw [show (a + 0) / 4 = a / 4 by omega, show (a + 0) % 4 = 0 by omega, e]
    exact ub_2_0_0 _
  · rw [show (a + 0) / 4 = a / 4 by omega, show (a + 0) % 4 = 2 by omega, e]
    exact ub_2_2_0 _
theorem ux_2_1 {c m : Nat → Int32} (hm : Rm c m) {a : Nat} (h : a + 2 ≤ 131072) (ha : a % 2 = 0) : ((mF_StepMachineModel_fetched m (nI a) 2) >>> ((8 : Int32) &&& 31)) &&& 255 = m (a + 1) := by
  rw [← num_2 hm h ha, num_of (by omega), mask2, hm (a + 1)]
  unfold byteAt
  rcases (show a % 4 = 0 ∨ a % 4 = 2 by omega) with e | e
  · rw [show (a + 1) / 4 = a / 4 by omega, show (a + 1) % 4 = 1 by omega, e]
    exact ub_2_0_1 _
  · rw [show (a + 1) / 4 = a / 4 by omega, show (a + 1) % 4 = 3 by omega, e]
    exact ub_2_2_1 _
theorem undo_2 {c m : Nat → Int32} (hm : Rm c m) (v : Int32) {a : Nat} (h : a + 2 ≤ 131072) (ha : a % 2 = 0) : (upd (upd (upd (upd m (a + 0) ((v >>> ((0 : Int32) &&& 31)) &&& 255)) (a + 1) ((v >>> ((8 : Int32) &&& 31)) &&& 255)) (a + 0) (((mF_StepMachineModel_fetched m (nI a) 2) >>> ((0 : Int32) &&& 31)) &&& 255)) (a + 1) (((mF_StepMachineModel_fetched m (nI a) 2) >>> ((8 : Int32) &&& 31)) &&& 255)) = m := by
  funext j
  by_cases q1 : j = a + 1
  · rw [q1, pk_us, ux_2_1 hm h ha]
  · rw [pk_un q1]
    by_cases q0 : j = a + 0
    · rw [q0, pk_us, ux_2_0 hm h ha]
    · rw [pk_un q0]
      rw [pk_un q1, pk_un q0]
theorem ux_4_0 {c m : Nat → Int32} (hm : Rm c m) {a : Nat} (h : a + 4 ≤ 131072) (ha : a % 4 = 0) : ((mF_StepMachineModel_fetched m (nI a) 4) >>> ((0 : Int32) &&& 31)) &&& 255 = m (a + 0) := by
  rw [← num_4 hm h ha, num_of (by omega), mask4, hm (a + 0)]
  unfold byteAt
  rcases (show a % 4 = 0 by omega) with e
  · rw [show (a + 0) / 4 = a / 4 by omega, show (a + 0) % 4 = 0 by omega, e]
    exact ub_4_0_0 _
theorem ux_4_1 {c m : Nat → Int32} (hm : Rm c m) {a : Nat} (h : a + 4 ≤ 131072) (ha : a % 4 = 0) : ((mF_StepMachineModel_fetched m (nI a) 4) >>> ((8 : Int32) &&& 31)) &&& 255 = m (a + 1) := by
  rw [← num_4 hm h ha, num_of (by omega), mask4, hm (a + 1)]
  unfold byteAt
  rcases (show a % 4 = 0 by omega) with e
  · rw [show (a + 1) / 4 = a / 4 by omega, show (a + 1) % 4 = 1 by omega, e]
    exact ub_4_0_1 _
theorem ux_4_2 {c m : Nat → Int32} (hm : Rm c m) {a : Nat} (h : a + 4 ≤ 131072) (ha : a % 4 = 0) : ((mF_StepMachineModel_fetched m (nI a) 4) >>> ((16 : Int32) &&& 31)) &&& 255 = m (a + 2) := by
  rw [← num_4 hm h ha, num_of (by omega), mask4, hm (a + 2)]
  unfold byteAt
  rcases (show a % 4 = 0 by omega) with e
  · rw [show (a + 2) / 4 = a / 4 by omega, show (a + 2) % 4 = 2 by omega, e]
    exact ub_4_0_2 _
theorem ux_4_3 {c m : Nat → Int32} (hm : Rm c m) {a : Nat} (h : a + 4 ≤ 131072) (ha : a % 4 = 0) : ((mF_StepMachineModel_fetched m (nI a) 4) >>> ((24 : Int32) &&& 31)) &&& 255 = m (a + 3) := by
  rw [← num_4 hm h ha, num_of (by omega), mask4, hm (a + 3)]
  unfold byteAt
  rcases (show a % 4 = 0 by omega) with e
  · rw [show (a + 3) / 4 = a / 4 by omega, show (a + 3) % 4 = 3 by omega, e]
    exact ub_4_0_3 _
theorem undo_4 {c m : Nat → Int32} (hm : Rm c m) (v : Int32) {a : Nat} (h : a + 4 ≤ 131072) (ha : a % 4 = 0) : (upd (upd (upd (upd (upd (upd (upd (upd m (a + 0) ((v >>> ((0 : Int32) &&& 31)) &&& 255)) (a + 1) ((v >>> ((8 : Int32) &&& 31)) &&& 255)) (a + 2) ((v >>> ((16 : Int32) &&& 31)) &&& 255)) (a + 3) ((v >>> ((24 : Int32) &&& 31)) &&& 255)) (a + 0) (((mF_StepMachineModel_fetched m (nI a) 4) >>> ((0 : Int32) &&& 31)) &&& 255)) (a + 1) (((mF_StepMachineModel_fetched m (nI a) 4) >>> ((8 : Int32) &&& 31)) &&& 255)) (a + 2) (((mF_StepMachineModel_fetched m (nI a) 4) >>> ((16 : Int32) &&& 31)) &&& 255)) (a + 3) (((mF_StepMachineModel_fetched m (nI a) 4) >>> ((24 : Int32) &&& 31)) &&& 255)) = m := by
  funext j
  by_cases q3 : j = a + 3
  · rw [q3, pk_us, ux_4_3 hm h ha]
  · rw [pk_un q3]
    by_cases q2 : j = a + 2
    · rw [q2, pk_us, ux_4_2 hm h ha]
    · rw [pk_un q2]
      by_cases q1 : j = a + 1
      · rw [q1, pk_us, ux_4_1 hm h ha]
      · rw [pk_un q1]
        by_cases q0 : j = a + 0
        · rw [q0, pk_us, ux_4_0 hm h ha]
        · rw [pk_un q0]
          rw [pk_un q3, pk_un q2, pk_un q1, pk_un q0]
theorem undo_c {c : Nat → Int32} {a : Nat} (h : a < 131072) (w v : Int32) : cF_Memory_putCell (cF_Memory_putNumber c (nI a) w v) (nI a) (cF_Memory_cellOf c (nI a)) = c := by
  rw [put_of h, cF_Memory_putCell, if_neg (has_of h), cix_of h, cellOf_of h]
  funext j
  by_cases q : j = a / 4
  · rw [q, pk_us]
  · rw [pk_un q, pk_un q]
theorem undo_n (c : Nat → Int32) (x : Int32) : cF_Memory_putCell c (-1) x = c := by
  rw [cF_Memory_putCell, if_pos (by decide)]
