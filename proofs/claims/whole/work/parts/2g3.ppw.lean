theorem ite_cg {α : Type} {c : Prop} [Decidable c] {a b a' b' : α} (ha : c → a = a') (hb : ¬ c → b = b') : (if c then a else b) = (if c then a' else b') := by
  by_cases h : c
  · rw [if_pos h, if_pos h]; exact ha h
  · rw [if_neg h, if_neg h]; exact hb h
theorem kdc {k : Int32} (h1 : 0 ≤ k.toInt) (h2 : k.toInt < 48) : k = 0 ∨ k = 1 ∨ k = 2 ∨ k = 3 ∨ k = 4 ∨ k = 5 ∨ k = 6 ∨ k = 7 ∨ k = 8 ∨ k = 9 ∨ k = 10 ∨ k = 11 ∨ k = 12 ∨ k = 13 ∨ k = 14 ∨ k = 15 ∨ k = 16 ∨ k = 17 ∨ k = 18 ∨ k = 19 ∨ k = 20 ∨ k = 21 ∨ k = 22 ∨ k = 23 ∨ k = 24 ∨ k = 25 ∨ k = 26 ∨ k = 27 ∨ k = 28 ∨ k = 29 ∨ k = 30 ∨ k = 31 ∨ k = 32 ∨ k = 33 ∨ k = 34 ∨ k = 35 ∨ k = 36 ∨ k = 37 ∨ k = 38 ∨ k = 39 ∨ k = 40 ∨ k = 41 ∨ k = 42 ∨ k = 43 ∨ k = 44 ∨ k = 45 ∨ k = 46 ∨ k = 47 := by
  have hn := ti_nI h1
  rcases (show k.toInt.toNat = 0 ∨ k.toInt.toNat = 1 ∨ k.toInt.toNat = 2 ∨ k.toInt.toNat = 3 ∨ k.toInt.toNat = 4 ∨ k.toInt.toNat = 5 ∨ k.toInt.toNat = 6 ∨ k.toInt.toNat = 7 ∨ k.toInt.toNat = 8 ∨ k.toInt.toNat = 9 ∨ k.toInt.toNat = 10 ∨ k.toInt.toNat = 11 ∨ k.toInt.toNat = 12 ∨ k.toInt.toNat = 13 ∨ k.toInt.toNat = 14 ∨ k.toInt.toNat = 15 ∨ k.toInt.toNat = 16 ∨ k.toInt.toNat = 17 ∨ k.toInt.toNat = 18 ∨ k.toInt.toNat = 19 ∨ k.toInt.toNat = 20 ∨ k.toInt.toNat = 21 ∨ k.toInt.toNat = 22 ∨ k.toInt.toNat = 23 ∨ k.toInt.toNat = 24 ∨ k.toInt.toNat = 25 ∨ k.toInt.toNat = 26 ∨ k.toInt.toNat = 27 ∨ k.toInt.toNat = 28 ∨ k.toInt.toNat = 29 ∨ k.toInt.toNat = 30 ∨ k.toInt.toNat = 31 ∨ k.toInt.toNat = 32 ∨ k.toInt.toNat = 33 ∨ k.toInt.toNat = 34 ∨ k.toInt.toNat = 35 ∨ k.toInt.toNat = 36 ∨ k.toInt.toNat = 37 ∨ k.toInt.toNat = 38 ∨ k.toInt.toNat = 39 ∨ k.toInt.toNat = 40 ∨ k.toInt.toNat = 41 ∨ k.toInt.toNat = 42 ∨ k.toInt.toNat = 43 ∨ k.toInt.toNat = 44 ∨ k.toInt.toNat = 45 ∨ k.toInt.toNat = 46 ∨ k.toInt.toNat = 47 by omega) with e | e | e | e | e | e | e | e | e | e | e | e | e | e | e | e | e | e | e | e | e | e | e | e | e | e | e | e | e | e | e | e | e | e | e | e | e | e | e | e | e | e | e | e | e | e | e | e <;> (rw [e] at hn; rw [hn]; decide)
theorem below_tr (x y : Int32) : (if (cF_Arithmetic_isBelow x y) = 0 then (0 : Int32) else 1) = (if 0 ≤ lg_cmp (mF_StepMachineModel_bare x) (mF_StepMachineModel_bare y) then (mF_StepMachineModel_truth 0) else (mF_StepMachineModel_truth 1)) := by
  rw [be_alike]
  by_cases c : 0 ≤ lg_cmp (mF_StepMachineModel_bare x) (mF_StepMachineModel_bare y)
  · rw [if_pos c, if_pos c, if_pos rfl]; rfl
  · rw [if_neg c, if_neg c, if_neg (by decide)]; rfl
theorem tr_eq (c : Prop) [Decidable c] : (if c then (0 : Int32) else 1) = (if c then (mF_StepMachineModel_truth 0) else (mF_StepMachineModel_truth 1)) := ite_cg (fun _ => rfl) (fun _ => rfl)
theorem re_41 (x y : Int32) : (if lg_cmp y.toInt64 0 = 0 then (-1) else (x.toInt64 / y.toInt64).toInt32) = (if y = 0 then (-1) else (if y = (-1) then (-x) else (x / y))) := by
  by_cases h : y = 0
  · rw [if_pos h, if_pos ((z64 y).mpr h)]
  · rw [if_neg h, if_neg (fun q => h ((z64 y).mp q)), d64]
    by_cases g : y = -1
    · rw [if_pos g, g, dm1]
    · rw [if_neg g]
theorem re_42 (x y : Int32) : (if lg_cmp (y.toInt64 &&& 4294967295) 0 = 0 then (-1) else ((x.toInt64 &&& 4294967295) / (y.toInt64 &&& 4294967295)).toInt32) = (if y = 0 then (-1) else ((mF_StepMachineModel_bare x) / (mF_StepMachineModel_bare y)).toInt32) := by
  by_cases h : y = 0
  · rw [if_pos h, if_pos ((zb64 y).mpr h)]
  · rw [if_neg h, if_neg (fun q => h ((zb64 y).mp q))]
    rfl
theorem re_43 (x y : Int32) : (if lg_cmp y.toInt64 0 = 0 then x else (x.toInt64 - x.toInt64 / y.toInt64 * y.toInt64).toInt32) = (if y = 0 then x else (if y = (-1) then 0 else (x - x / y * y))) := by
  by_cases h : y = 0
  · rw [if_pos h, if_pos ((z64 y).mpr h)]
  · rw [if_neg h, if_neg (fun q => h ((z64 y).mp q)), r64]
    by_cases g : y = -1
    · rw [if_pos g, g, dm1, Int32.mul_neg, Int32.neg_mul, Int32.neg_neg, Int32.mul_one, Int32.sub_self]
    · rw [if_neg g]
theorem re_44 (x y : Int32) : (if lg_cmp (y.toInt64 &&& 4294967295) 0 = 0 then x else ((x.toInt64 &&& 4294967295) - (x.toInt64 &&& 4294967295) / (y.toInt64 &&& 4294967295) * (y.toInt64 &&& 4294967295)).toInt32) = (if y = 0 then x else ((mF_StepMachineModel_bare x) - (mF_StepMachineModel_bare x) / (mF_StepMachineModel_bare y) * (mF_StepMachineModel_bare y)).toInt32) := by
  by_cases h : y = 0
  · rw [if_pos h, if_pos ((zb64 y).mpr h)]
  · rw [if_neg h, if_neg (fun q => h ((zb64 y).mp q))]
    rfl
theorem pr_alike {k : Int32} (h1 : 37 ≤ k.toInt) (h2 : k.toInt ≤ 44) (x y : Int32) : cF_Arithmetic_product k x y = mF_StepMachineModel_multiplied k x y := by
  rw [cF_Arithmetic_product, mF_StepMachineModel_multiplied]
  refine ite_cg (fun _ => rfl) (fun n37 => ?_)
  refine ite_cg (fun _ => rfl) (fun n38 => ?_)
  refine ite_cg (fun _ => rfl) (fun n39 => ?_)
  refine ite_cg (fun _ => rfl) (fun n40 => ?_)
  have hk : k = 41 ∨ k = 42 ∨ k = 43 ∨ k = 44 := by
    have hn := ti_nI (show 0 ≤ k.toInt by omega)
    have a : ∀ c : Int32, ¬ k = c → k.toInt ≠ c.toInt := fun c h q => h (Int32.toInt_inj.mp q)
    have b37 := a 37 n37
    have b38 := a 38 n38
    have b39 := a 39 n39
    have b40 := a 40 n40
    rw [show (37 : Int32).toInt = 37 from by decide] at b37
    rw [show (38 : Int32).toInt = 38 from by decide] at b38
    rw [show (39 : Int32).toInt = 39 from by decide] at b39
    rw [show (40 : Int32).toInt = 40 from by decide] at b40
    rcases (show k.toInt.toNat = 41 ∨ k.toInt.toNat = 42 ∨ k.toInt.toNat = 43 ∨ k.toInt.toNat = 44 by omega) with e | e | e | e <;> (rw [e] at hn; rw [hn]; decide)
  rw [cF_Arithmetic_quotient]
  rcases hk with h | h | h | h <;> subst h
  · rw [if_neg (show ¬ (41 : Int32) = 43 by decide), if_neg (show ¬ (41 : Int32) = 44 by decide), if_pos (show (41 : Int32) = 41 from rfl), if_pos (show (41 : Int32) = 41 from rfl)]
    exact re_41 x y
  · rw [if_neg (show ¬ (42 : Int32) = 43 by decide), if_neg (show ¬ (42 : Int32) = 44 by decide), if_neg (show ¬ (42 : Int32) = 41 by decide), if_neg (show ¬ (42 : Int32) = 41 by decide), if_pos (show (42 : Int32) = 42 from rfl)]
    exact re_42 x y
  · rw [if_pos (show (43 : Int32) = 43 from rfl), if_neg (show ¬ (43 : Int32) = 41 by decide), if_neg (show ¬ (43 : Int32) = 42 by decide), if_pos (show (43 : Int32) = 43 from rfl)]
    exact re_43 x y
  · rw [if_neg (show ¬ (44 : Int32) = 43 by decide), if_pos (show (44 : Int32) = 44 from rfl), if_neg (show ¬ (44 : Int32) = 41 by decide), if_neg (show ¬ (44 : Int32) = 42 by decide), if_neg (show ¬ (44 : Int32) = 43 by decide)]
    exact re_44 x y
theorem res_alike {k : Int32} (h1 : 18 ≤ k.toInt) (h2 : k.toInt ≤ 44) (x y : Int32) : cF_Arithmetic_result k x y = mF_StepMachineModel_reckoned k x y := by
  rw [cF_Arithmetic_result, mF_StepMachineModel_reckoned]
  refine ite_cg (fun _ => rfl) (fun n18 => ?_)
  refine ite_cg (fun _ => tr_eq _) (fun n19 => ?_)
  refine ite_cg (fun _ => below_tr x y) (fun n20 => ?_)
  refine ite_cg (fun _ => rfl) (fun n21 => ?_)
  refine ite_cg (fun _ => rfl) (fun n22 => ?_)
  refine ite_cg (fun _ => rfl) (fun n23 => ?_)
  refine ite_cg (fun _ => rfl) (fun n24 => ?_)
  refine ite_cg (fun _ => rfl) (fun n25 => ?_)
  refine ite_cg (fun _ => rfl) (fun n26 => ?_)
  refine ite_cg (fun _ => rfl) (fun n27 => ?_)
  refine ite_cg (fun _ => rfl) (fun n28 => ?_)
  refine ite_cg (fun _ => rfl) (fun n29 => ?_)
  refine ite_cg (fun _ => tr_eq _) (fun n30 => ?_)
  refine ite_cg (fun _ => below_tr x y) (fun n31 => ?_)
  refine ite_cg (fun _ => rfl) (fun n32 => ?_)
  refine ite_cg (fun _ => rfl) (fun n33 => ?_)
  refine ite_cg (fun _ => rfl) (fun n34 => ?_)
  refine ite_cg (fun _ => rfl) (fun n35 => ?_)
  refine ite_cg (fun _ => rfl) (fun n36 => ?_)
  refine pr_alike ?_ h2 x y
  have a : ∀ c : Int32, ¬ k = c → k.toInt ≠ c.toInt := fun c h q => h (Int32.toInt_inj.mp q)
  have b18 := a 18 n18
  rw [show (18 : Int32).toInt = 18 from by decide] at b18
  have b19 := a 19 n19
  rw [show (19 : Int32).toInt = 19 from by decide] at b19
  have b20 := a 20 n20
  rw [show (20 : Int32).toInt = 20 from by decide] at b20
  have b21 := a 21 n21
  rw [show (21 : Int32).toInt = 21 from by decide] at b21
  have b22 := a 22 n22
  rw [show (22 : Int32).toInt = 22 from by decide] at b22
  have b23 := a 23 n23
  rw [show (23 : Int32).toInt = 23 from by decide] at b23
  have b24 := a 24 n24
  rw [show (24 : Int32).toInt = 24 from by decide] at b24
  have b25 := a 25 n25
  rw [show (25 : Int32).toInt = 25 from by decide] at b25
  have b26 := a 26 n26
  rw [show (26 : Int32).toInt = 26 from by decide] at b26
  have b27 := a 27 n27
  rw [show (27 : Int32).toInt = 27 from by decide] at b27
  have b28 := a 28 n28
  rw [show (28 : Int32).toInt = 28 from by decide] at b28
  have b29 := a 29 n29
  rw [show (29 : Int32).toInt = 29 from by decide] at b29
  have b30 := a 30 n30
  rw [show (30 : Int32).toInt = 30 from by decide] at b30
  have b31 := a 31 n31
  rw [show (31 : Int32).toInt = 31 from by decide] at b31
  have b32 := a 32 n32
  rw [show (32 : Int32).toInt = 32 from by decide] at b32
  have b33 := a 33 n33
  rw [show (33 : Int32).toInt = 33 from by decide] at b33
  have b34 := a 34 n34
  rw [show (34 : Int32).toInt = 34 from by decide] at b34
  have b35 := a 35 n35
  rw [show (35 : Int32).toInt = 35 from by decide] at b35
  have b36 := a 36 n36
  rw [show (36 : Int32).toInt = 36 from by decide] at b36
  omega
def Rb (v m : Nat → Int32) : Prop := ∀ j, m j = v j &&& 255
theorem byte_and (z : Int32) : (vp_nar .byte z.toInt8.toInt32) &&& 255 = z &&& 255 := by
  rw [pk_vb]
  apply bx_ext
  intro i hi
  rw [bx_and, bx_and, Int8.toBitVec_toInt32, Int32.toBitVec_toInt8]
  by_cases h : i < 8
  · rw [BitVec.getLsbD_signExtend, BitVec.getLsbD_signExtend, if_pos h, if_pos hi, decide_eq_true hi, decide_eq_true h, Bool.true_and, Bool.true_and]
  · rw [(by decide +kernel : ∀ i, i < 32 → ¬ i < 8 → (255 : Int32).toBitVec.getLsbD i = false) i hi h, Bool.and_false, Bool.and_false]
theorem ev_iff (x : Int32) : x &&& 1 = 0 ↔ x.toBitVec.toNat % 2 = 0 := by
  rw [show x &&& 1 = nI (x.toBitVec.toNat % 2) from pk_and x 1 (by decide)]
  have h := Nat.mod_lt x.toBitVec.toNat (show 0 < 2 by decide)
  constructor
  · intro e
    have a := congrArg Int32.toInt e
    rw [nI_toInt (by omega), e_0] at a
    omega
  · intro e
    rw [e]
    rfl
theorem ev_add {x y : Int32} (hx : x &&& 1 = 0) (hy : y &&& 1 = 0) : (x + y) &&& 1 = 0 := by
  rw [ev_iff] at hx hy ⊢
  rw [Int32.toBitVec_add, BitVec.toNat_add]
  omega
theorem ev_m2 (x : Int32) : (x &&& (-2)) &&& 1 = 0 := by
  rw [Int32.and_assoc, show ((-2 : Int32) &&& 1) = 0 by decide, Int32.and_zero]
theorem ev_n {n : Int32} (h : n = 2 ∨ n = 4) : n &&& 1 = 0 := by
  rcases h with h | h <;> (rw [h]; decide)
theorem lx {kn : Int32} {N i : Nat} (hL : mF_StepMachineModel_latest kn = nI (13 * N)) (h : 13 * N + i < 2147483648) : (mF_StepMachineModel_latest kn + nI i).toNatClampNeg = 13 * N + i := by
  rw [hL, nI_add, nI_clamp (by omega)]
theorem reg_of {reg : Nat → Int32} (h0 : reg 0 = 0) {d : Int32} (hd : 0 ≤ d.toInt ∧ d.toInt < 32) : cF_Core_register reg d = reg d.toNatClampNeg := by
  rw [cF_Core_register]
  by_cases c : d ≤ 0
  · have a := ti_le c
    rw [e_0] at a
    have e : d = 0 := Int32.toInt_inj.mp (by rw [e_0]; omega)
    rw [if_pos c, e]
    exact h0.symm
  · rw [if_neg c, if_neg (fun q => by have a := ti_le q; rw [e_32] at a; omega)]
def rec8 (k d : Int32) : Int32 := if k = 46 then 10 else d
def rec10 (k x : Int32) : Int32 := if cF_Word_isStore k = 0 then -1 else x
theorem rem_is (pc st cu va sp un : Int32) (reg : Nat → Int32) (k d a i : Int32) (c : Nat → Int32) (tak put : Int32) : cF_Core_remember pc st cu va sp un reg k d a i c tak put = (pc, st, cu, va, sp, un, put, tak, rec8 k d, cF_Core_register reg (rec8 k d), rec10 k (cF_Core_address reg a i), cF_Memory_cellOf c (rec10 k (cF_Core_address reg a i))) := by
  rw [cF_Core_remember, rec8, rec10]
  by_cases h : k = 46
  · rw [if_pos h, if_pos h]
    by_cases g : cF_Word_isStore k = 0
    · rw [if_pos g, if_pos g]
    · rw [if_neg g, if_neg g]
  · rw [if_neg h, if_neg h]
    by_cases g : cF_Word_isStore k = 0
    · rw [if_pos g, if_pos g]
    · rw [if_neg g, if_neg g]
def UndM (kp : Nat → Int32) (N : Nat) (r' m' r m : Nat → Int32) : Prop := (0 ≤ (kp (13 * N + 8)).toInt ∧ (kp (13 * N + 8)).toInt < 32) ∧ (¬ kp (13 * N + 10) = -1 → inM (kp (13 * N + 10)) (kp (13 * N + 11))) ∧ (if kp (13 * N + 8) ≤ 0 then r' else upd r' (kp (13 * N + 8)).toNatClampNeg (kp (13 * N + 9))) = r ∧ ∀ kn : Int32, mF_StepMachineModel_latest kn = nI (13 * N) → (mF_StepMachineModel_back_L153 kp kn (((kp (13 * N + 11)).toInt - (0 : Int32).toInt).toNat + 1) (0 : Int32) m').2 = m
def UndC (r c : Nat → Int32) (r8 r9 c10 c11 : Int32) (r0 c0 : Nat → Int32) : Prop := (cF_Core_putRegister r r8 r9).2 = r0 ∧ cF_Memory_putCell c c10 c11 = c0
def FrK (N : Nat) (kp' kp : Nat → Int32) : Prop := ∀ j, (j < 13 * N + 8 ∨ 13 * N + 12 < j) → kp' j = kp j
theorem l153_none {kp : Nat → Int32} {kn : Int32} {N : Nat} (hN : N < 100) (hL : mF_StepMachineModel_latest kn = nI (13 * N)) (h : kp (13 * N + 10) = -1) (n : Nat) (k : Int32) (m : Nat → Int32) : mF_StepMachineModel_back_L153 kp kn (n + 1) k m = (k, m) := by
  rw [mF_StepMachineModel_back_L153, show (mF_StepMachineModel_latest kn + 10).toNatClampNeg = 13 * N + 10 from lx (i := 10) hL (by omega), if_pos h]
theorem l153b_eq (kp : Nat → Int32) (kn : Int32) : ∀ (n : Nat) (k : Int32) (m : Nat → Int32), mF_StepMachineModel_back_L153b kp kn n k m = mF_StepMachineModel_back_L153 kp kn n k m := by
  intro n
  induction n with
  | zero => intro k m; rfl
  | succ n ih =>
    intro k m
    rw [mF_StepMachineModel_back_L153b, mF_StepMachineModel_back_L153, ih]
theorem l153_1 {kp : Nat → Int32} {kn : Int32} {N a : Nat} (hN : N < 100) (ha : a + 1 ≤ 131072) (hL : mF_StepMachineModel_latest kn = nI (13 * N)) (h10 : kp (13 * N + 10) = nI a) (h11 : kp (13 * N + 11) = 1) (m : Nat → Int32) : (mF_StepMachineModel_back_L153 kp kn (((kp (13 * N + 11)).toInt - (0 : Int32).toInt).toNat + 1) (0 : Int32) m).2 = (upd m (a + 0) (((kp (13 * N + 12)) >>> ((0 : Int32) &&& 31)) &&& 255)) := by
  have hne : ¬ nI a = -1 := nI_nm1 (by omega)
  have x10 : (mF_StepMachineModel_latest kn + 10).toNatClampNeg = 13 * N + 10 := lx (i := 10) hL (by omega)
  have x11 : (mF_StepMachineModel_latest kn + 11).toNatClampNeg = 13 * N + 11 := lx (i := 11) hL (by omega)
  have x12 : (mF_StepMachineModel_latest kn + 12).toNatClampNeg = 13 * N + 12 := lx (i := 12) hL (by omega)
  rw [h11, show ((1 : Int32).toInt - (0 : Int32).toInt).toNat + 1 = 2 from by decide]
  rw [mF_StepMachineModel_back_L153, x10, x11, x12, h10, h11, if_neg hne, if_neg (by decide)]
  rw [mF_StepMachineModel_back_L153, x10, x11, x12, h10, h11, if_neg hne, if_pos (by decide)]
  rw [show (nI a + (0 : Int32)).toNatClampNeg = a + 0 from ix_add (k := 0) (by omega)]
  rfl
theorem l153_2 {kp : Nat → Int32} {kn : Int32} {N a : Nat} (hN : N < 100) (ha : a + 2 ≤ 131072) (hL : mF_StepMachineModel_latest kn = nI (13 * N)) (h10 : kp (13 * N + 10) = nI a) (h11 : kp (13 * N + 11) = 2) (m : Nat → Int32) : (mF_StepMachineModel_back_L153 kp kn (((kp (13 * N + 11)).toInt - (0 : Int32).toInt).toNat + 1) (0 : Int32) m).2 = (upd (upd m (a + 0) (((kp (13 * N + 12)) >>> ((0 : Int32) &&& 31)) &&& 255)) (a + 1) (((kp (13 * N + 12)) >>> ((8 : Int32) &&& 31)) &&& 255)) := by
  have hne : ¬ nI a = -1 := nI_nm1 (by omega)
  have x10 : (mF_StepMachineModel_latest kn + 10).toNatClampNeg = 13 * N + 10 := lx (i := 10) hL (by omega)
  have x11 : (mF_StepMachineModel_latest kn + 11).toNatClampNeg = 13 * N + 11 := lx (i := 11) hL (by omega)
  have x12 : (mF_StepMachineModel_latest kn + 12).toNatClampNeg = 13 * N + 12 := lx (i := 12) hL (by omega)
  rw [h11, show ((2 : Int32).toInt - (0 : Int32).toInt).toNat + 1 = 3 from by decide]
  rw [mF_StepMachineModel_back_L153, x10, x11, x12, h10, h11, if_neg hne, if_neg (by decide)]
  rw [mF_StepMachineModel_back_L153, x10, x11, x12, h10, h11, if_neg hne, if_neg (by decide)]
  rw [mF_StepMachineModel_back_L153, x10, x11, x12, h10, h11, if_neg hne, if_pos (by decide)]
  rw [show (nI a + (0 : Int32)).toNatClampNeg = a + 0 from ix_add (k := 0) (by omega), show (nI a + ((0 : Int32) + 1)).toNatClampNeg = a + 1 from ix_add (k := 1) (by omega)]
  rfl
theorem l153_4 {kp : Nat → Int32} {kn : Int32} {N a : Nat} (hN : N < 100) (ha : a + 4 ≤ 131072) (hL : mF_StepMachineModel_latest kn = nI (13 * N)) (h10 : kp (13 * N + 10) = nI a) (h11 : kp (13 * N + 11) = 4) (m : Nat → Int32) : (mF_StepMachineModel_back_L153 kp kn (((kp (13 * N + 11)).toInt - (0 : Int32).toInt).toNat + 1) (0 : Int32) m).2 = (upd (upd (upd (upd m (a + 0) (((kp (13 * N + 12)) >>> ((0 : Int32) &&& 31)) &&& 255)) (a + 1) (((kp (13 * N + 12)) >>> ((8 : Int32) &&& 31)) &&& 255)) (a + 2) (((kp (13 * N + 12)) >>> ((16 : Int32) &&& 31)) &&& 255)) (a + 3) (((kp (13 * N + 12)) >>> ((24 : Int32) &&& 31)) &&& 255)) := by
  have hne : ¬ nI a = -1 := nI_nm1 (by omega)
  have x10 : (mF_StepMachineModel_latest kn + 10).toNatClampNeg = 13 * N + 10 := lx (i := 10) hL (by omega)
  have x11 : (mF_StepMachineModel_latest kn + 11).toNatClampNeg = 13 * N + 11 := lx (i := 11) hL (by omega)
  have x12 : (mF_StepMachineModel_latest kn + 12).toNatClampNeg = 13 * N + 12 := lx (i := 12) hL (by omega)
  rw [h11, show ((4 : Int32).toInt - (0 : Int32).toInt).toNat + 1 = 5 from by decide]
  rw [mF_StepMachineModel_back_L153, x10, x11, x12, h10, h11, if_neg hne, if_neg (by decide)]
  rw [mF_StepMachineModel_back_L153, x10, x11, x12, h10, h11, if_neg hne, if_neg (by decide)]
  rw [mF_StepMachineModel_back_L153, x10, x11, x12, h10, h11, if_neg hne, if_neg (by decide)]
  rw [mF_StepMachineModel_back_L153, x10, x11, x12, h10, h11, if_neg hne, if_neg (by decide)]
  rw [mF_StepMachineModel_back_L153, x10, x11, x12, h10, h11, if_neg hne, if_pos (by decide)]
  rw [show (nI a + (0 : Int32)).toNatClampNeg = a + 0 from ix_add (k := 0) (by omega), show (nI a + ((0 : Int32) + 1)).toNatClampNeg = a + 1 from ix_add (k := 1) (by omega), show (nI a + (((0 : Int32) + 1) + 1)).toNatClampNeg = a + 2 from ix_add (k := 2) (by omega), show (nI a + ((((0 : Int32) + 1) + 1) + 1)).toNatClampNeg = a + 3 from ix_add (k := 3) (by omega)]
  rfl
theorem und_none {kp : Nat → Int32} {N : Nat} (hN : N < 100) (h8 : kp (13 * N + 8) = 0) (h10 : kp (13 * N + 10) = -1) (r m : Nat → Int32) : UndM kp N r m r m := ⟨by rw [h8]; decide, fun q => absurd h10 q, by rw [h8, if_pos (by decide)], fun kn hL => by rw [l153_none hN hL h10]⟩
theorem und_reg {kp' r' r m : Nat → Int32} {N : Nat} {d x : Int32} (hN : N < 100) (hd : 0 ≤ d.toInt ∧ d.toInt < 32) (h5 : ¬ d ≤ 0) (e8 : kp' (13 * N + 8) = d) (e9 : kp' (13 * N + 9) = x) (e10 : kp' (13 * N + 10) = -1) (hu : upd r' d.toNatClampNeg x = r) : UndM kp' N r' m r m := ⟨by rw [e8]; exact hd, fun q => absurd e10 q, by rw [e8, e9, if_neg h5]; exact hu, fun kn hL => by rw [l153_none hN hL e10]⟩
theorem frk_refl (N : Nat) (kp : Nat → Int32) : FrK N kp kp := fun _ _ => rfl
theorem putreg_0 {r : Nat → Int32} {d x : Int32} (h : d = 0) : (cF_Core_putRegister r d x).2 = r := by
  rw [h]; rfl
theorem putreg_p {r : Nat → Int32} {d x : Int32} (h : 1 ≤ d.toInt ∧ d.toInt < 32) : (cF_Core_putRegister r d x).2 = upd r d.toNatClampNeg x := by
  rw [cF_Core_putRegister, if_neg (fun q => by have a := ti_lt q; rw [e_1] at a; omega), if_pos (Int32.lt_iff_toInt_lt.mpr (by rw [e_32]; omega))]
theorem upd_back (r : Nat → Int32) (j : Nat) (x : Int32) : upd (upd r j x) j (r j) = r := by
  funext i
  by_cases h : i = j
  · rw [h, pk_us]
  · rw [pk_un h, pk_un h]
theorem upd_self (r : Nat → Int32) (j : Nat) : upd r j (r j) = r := by
  funext i
  by_cases h : i = j
  · rw [h, pk_us]
  · rw [pk_un h]
theorem d_cases {d : Int32} (hd : 0 ≤ d.toInt ∧ d.toInt < 32) : d = 0 ∨ (1 ≤ d.toInt ∧ d.toInt < 32 ∧ ¬ d = 0 ∧ 1 ≤ d.toNatClampNeg ∧ ¬ d ≤ 0) := by
  by_cases h : d = 0
  · exact Or.inl h
  · have a : d.toInt ≠ 0 := fun q => h (Int32.toInt_inj.mp (by rw [e_0]; exact q))
    refine Or.inr ⟨by omega, hd.2, h, ?_, fun q => ?_⟩
    · rw [ti_nI hd.1, nI_clamp (by omega)]; omega
    · have := ti_le q
      rw [e_0] at this
      omega
/-- a register is written: both sides alike, and both can go back -/
theorem bec {reg kp : Nat → Int32} {kn d V : Int32} {N : Nat} (m c : Nat → Int32) (hN : N < 100) (hL : mF_StepMachineModel_latest kn = nI (13 * N)) (h8 : kp (13 * N + 8) = 0) (h10 : kp (13 * N + 10) = -1) (hr0 : reg 0 = 0) (hd : 0 ≤ d.toInt ∧ d.toInt < 32) : (cF_Core_putRegister reg d V).2 = (mF_StepMachineModel_become kn reg kp d V).1 ∧ (mF_StepMachineModel_become kn reg kp d V).1 0 = 0 ∧ UndM (mF_StepMachineModel_become kn reg kp d V).2 N (mF_StepMachineModel_become kn reg kp d V).1 m reg m ∧ FrK N (mF_StepMachineModel_become kn reg kp d V).2 kp ∧ (cF_Core_putRegister (mF_StepMachineModel_become kn reg kp d V).1 d (cF_Core_register reg d)).2 = reg := by
  have x8 : (mF_StepMachineModel_latest kn + 8).toNatClampNeg = 13 * N + 8 := lx (i := 8) hL (by omega)
  have x9 : (mF_StepMachineModel_latest kn + 9).toNatClampNeg = 13 * N + 9 := lx (i := 9) hL (by omega)
  rw [mF_StepMachineModel_become, x8, x9, reg_of hr0 hd]
  rcases d_cases hd with h | ⟨h1, h2, h3, h4, h5⟩
  · rw [if_pos h]
    exact ⟨putreg_0 h, hr0, und_none hN h8 h10 _ _, frk_refl _ _, putreg_0 h⟩
  · rw [if_neg h3]
    have e8 : (upd (upd kp (13 * N + 8) d) (13 * N + 9) (reg d.toNatClampNeg)) (13 * N + 8) = d := by rw [pk_un (by omega), pk_us]
    have e9 : (upd (upd kp (13 * N + 8) d) (13 * N + 9) (reg d.toNatClampNeg)) (13 * N + 9) = reg d.toNatClampNeg := pk_us
    have e10 : (upd (upd kp (13 * N + 8) d) (13 * N + 9) (reg d.toNatClampNeg)) (13 * N + 10) = -1 := by rw [pk_un (by omega), pk_un (by omega), h10]
    refine ⟨putreg_p ⟨h1, h2⟩, ?_, und_reg hN hd h5 e8 e9 e10 (upd_back reg _ _), ?_, ?_⟩
    · show upd reg d.toNatClampNeg V 0 = 0
      rw [pk_un (by omega), hr0]
    · intro j hj
      show upd (upd kp (13 * N + 8) d) (13 * N + 9) (reg d.toNatClampNeg) j = kp j
      rw [pk_un (by omega), pk_un (by omega)]
    · show (cF_Core_putRegister (upd reg d.toNatClampNeg V) d (reg d.toNatClampNeg)).2 = reg
      rw [putreg_p ⟨h1, h2⟩]
      exact upd_back reg _ _
theorem und_same {reg : Nat → Int32} (hr0 : reg 0 = 0) {d : Int32} (hd : 0 ≤ d.toInt ∧ d.toInt < 32) : (cF_Core_putRegister reg d (cF_Core_register reg d)).2 = reg := by
  rw [reg_of hr0 hd]
  rcases d_cases hd with h | ⟨h1, h2, h3, h4, h5⟩
  · exact putreg_0 h
  · rw [putreg_p ⟨h1, h2⟩]
    exact upd_self reg _
def PWk (k d x : Int32) (reg c m kp : Nat → Int32) (N : Nat) (P : (Nat → Int32) × (Nat → Int32) × Int32 × Int32 × Int32 × Int32 × (Nat → Int32) × Int32 × Int32) (W : (Nat → Int32) × (Nat → Int32) × (Nat → Int32) × Int32 × Int32 × Int32 × Int32 × Int32 × (Nat → Int32) × Int32 × Int32 × Int32) : Prop := P.1 = W.1 ∧ P.2.2.1 = W.2.2.2.2.2.2.2.2.2.1 ∧ P.2.2.2.1 = W.2.2.2.2.2.2.1 ∧ P.2.2.2.2.1 = W.2.2.2.2.2.2.2.1 ∧ P.2.2.2.2.2.1 = W.2.2.2.2.2.1 ∧ P.2.2.2.2.2.2.2.1 = W.2.2.2.1 ∧ P.2.2.2.2.2.2.2.2 = W.2.2.2.2.1 ∧ Rm P.2.1 W.2.2.2.2.2.2.2.2.1 ∧ Rb P.2.2.2.2.2.2.1 W.2.2.1 ∧ P.1 0 = 0 ∧ P.2.2.1 &&& 1 = 0 ∧ 0 ≤ P.2.2.2.2.2.2.2.2.toInt ∧ (0 ≤ P.2.2.2.2.2.2.2.1.toInt ∧ P.2.2.2.2.2.2.2.1.toInt ≤ 2000) ∧ UndC P.1 P.2.1 (rec8 k d) (cF_Core_register reg (rec8 k d)) (rec10 k x) (cF_Memory_cellOf c (rec10 k x)) reg c ∧ UndM W.2.1 N W.1 W.2.2.2.2.2.2.2.2.1 reg m ∧ FrK N W.2.1 kp
theorem pw_reg {k d x pc' va put tak st cu tg ju V kn : Int32} {reg c m kp vo mo : Nat → Int32} {N : Nat} (hN : N < 100) (hL : mF_StepMachineModel_latest kn = nI (13 * N)) (h8 : kp (13 * N + 8) = 0) (h10 : kp (13 * N + 10) = -1) (hr0 : reg 0 = 0) (hm : Rm c m) (ho : Rb vo mo) (hd : 0 ≤ (rec8 k d).toInt ∧ (rec8 k d).toInt < 32) (he : pc' &&& 1 = 0) (ht : 0 ≤ tak.toInt) (hu : 0 ≤ put.toInt ∧ put.toInt ≤ 2000) (hs : cF_Word_isStore k = 0) : PWk k d x reg c m kp N ((cF_Core_putRegister reg (rec8 k d) V).2, c, pc', st, cu, va, vo, put, tak) ((mF_StepMachineModel_become kn reg kp (rec8 k d) V).1, (mF_StepMachineModel_become kn reg kp (rec8 k d) V).2, mo, put, tak, va, st, cu, m, pc', tg, ju) := by
  obtain ⟨b1, b2, b3, b4, b5⟩ := bec (V := V) m c hN hL h8 h10 hr0 hd
  refine ⟨b1, rfl, rfl, rfl, rfl, rfl, rfl, hm, ho, ?_, he, ht, hu, ⟨?_, ?_⟩, b3, b4⟩
  · show (cF_Core_putRegister reg (rec8 k d) V).2 0 = 0
    rw [b1]
    exact b2
  · show (cF_Core_putRegister (cF_Core_putRegister reg (rec8 k d) V).2 (rec8 k d) (cF_Core_register reg (rec8 k d))).2 = reg
    rw [b1]
    exact b5
  · show cF_Memory_putCell c (rec10 k x) (cF_Memory_cellOf c (rec10 k x)) = c
    rw [rec10, if_pos hs]
    exact undo_n c _
theorem pw_non {k d x pc' va put tak st cu tg ju : Int32} {reg c m kp vo mo : Nat → Int32} {N : Nat} (hN : N < 100) (h8 : kp (13 * N + 8) = 0) (h10 : kp (13 * N + 10) = -1) (hr0 : reg 0 = 0) (hm : Rm c m) (ho : Rb vo mo) (hd : 0 ≤ (rec8 k d).toInt ∧ (rec8 k d).toInt < 32) (he : pc' &&& 1 = 0) (ht : 0 ≤ tak.toInt) (hu : 0 ≤ put.toInt ∧ put.toInt ≤ 2000) (hs : cF_Word_isStore k = 0) : PWk k d x reg c m kp N (reg, c, pc', st, cu, va, vo, put, tak) (reg, kp, mo, put, tak, va, st, cu, m, pc', tg, ju) := by
  refine ⟨rfl, rfl, rfl, rfl, rfl, rfl, rfl, hm, ho, hr0, he, ht, hu, ⟨und_same hr0 hd, ?_⟩, und_none hN h8 h10 _ _, frk_refl _ _⟩
  show cF_Memory_putCell c (rec10 k x) (cF_Memory_cellOf c (rec10 k x)) = c
  rw [rec10, if_pos hs]
  exact undo_n c _
theorem und_st1 {kp' r m' m : Nat → Int32} {N a : Nat} (hN : N < 100) (ha : a + 1 ≤ 131072) (e8 : kp' (13 * N + 8) = 0) (e10 : kp' (13 * N + 10) = nI a) (e11 : kp' (13 * N + 11) = 1) {F : Int32} (e12 : kp' (13 * N + 12) = F) (hu : (upd m' (a + 0) ((F >>> ((0 : Int32) &&& 31)) &&& 255)) = m) : UndM kp' N r m' r m := ⟨by rw [e8]; decide, fun _ => by rw [e10, e11]; exact ⟨by rw [nI_toInt (by omega)]; omega, by rw [nI_toInt (by omega), e_1]; omega⟩, by rw [e8, if_pos (by decide)], fun kn hL => (l153_1 hN ha hL e10 e11 _).trans (by rw [e12]; exact hu)⟩
theorem pw_st1 {k d pc' va put tak tg ju v kn : Int32} {reg c m kp vo mo : Nat → Int32} {N a : Nat} (hN : N < 100) (hL : mF_StepMachineModel_latest kn = nI (13 * N)) (h8 : kp (13 * N + 8) = 0) (hr0 : reg 0 = 0) (hm : Rm c m) (ho : Rb vo mo) (hd : 0 ≤ (rec8 k d).toInt ∧ (rec8 k d).toInt < 32) (he : pc' &&& 1 = 0) (ht : 0 ≤ tak.toInt) (hu : 0 ≤ put.toInt ∧ put.toInt ≤ 2000) (hs : ¬ cF_Word_isStore k = 0) (ha : a + 1 ≤ 131072) : PWk k d (nI a) reg c m kp N (reg, cF_Memory_putNumber c (nI a) 1 v, pc', 0, 0, va, vo, put, tak) (reg, (mF_StepMachineModel_store kn m kp (nI a) 1 v).2, mo, put, tak, va, 0, 0, (mF_StepMachineModel_store kn m kp (nI a) 1 v).1, pc', tg, ju) := by
  have x10 : (mF_StepMachineModel_latest kn + 10).toNatClampNeg = 13 * N + 10 := lx (i := 10) hL (by omega)
  have x11 : (mF_StepMachineModel_latest kn + 11).toNatClampNeg = 13 * N + 11 := lx (i := 11) hL (by omega)
  have x12 : (mF_StepMachineModel_latest kn + 12).toNatClampNeg = 13 * N + 12 := lx (i := 12) hL (by omega)
  rw [mF_StepMachineModel_store, mF_StepMachineModel_store_1, x10, x11, x12, st_u1 m v ha]
  have e8 : (upd (upd (upd kp (13 * N + 10) (nI a)) (13 * N + 11) 1) (13 * N + 12) (mF_StepMachineModel_fetched m (nI a) 1)) (13 * N + 8) = 0 := by rw [pk_un (by omega), pk_un (by omega), pk_un (by omega), h8]
  have e10 : (upd (upd (upd kp (13 * N + 10) (nI a)) (13 * N + 11) 1) (13 * N + 12) (mF_StepMachineModel_fetched m (nI a) 1)) (13 * N + 10) = nI a := by rw [pk_un (by omega), pk_un (by omega), pk_us]
  have e11 : (upd (upd (upd kp (13 * N + 10) (nI a)) (13 * N + 11) 1) (13 * N + 12) (mF_StepMachineModel_fetched m (nI a) 1)) (13 * N + 11) = 1 := by rw [pk_un (by omega), pk_us]
  have e12 : (upd (upd (upd kp (13 * N + 10) (nI a)) (13 * N + 11) 1) (13 * N + 12) (mF_StepMachineModel_fetched m (nI a) 1)) (13 * N + 12) = mF_StepMachineModel_fetched m (nI a) 1 := pk_us
  refine ⟨rfl, rfl, rfl, rfl, rfl, rfl, rfl, put_1 hm v ha, ho, hr0, he, ht, hu, ⟨und_same hr0 hd, ?_⟩, und_st1 hN ha e8 e10 e11 e12 (undo_1 hm v ha), ?_⟩
  · show cF_Memory_putCell (cF_Memory_putNumber c (nI a) 1 v) (rec10 k (nI a)) (cF_Memory_cellOf c (rec10 k (nI a))) = c
    rw [rec10, if_neg hs]
    exact undo_c (by omega) _ _
  · intro j hj
    show upd (upd (upd kp (13 * N + 10) (nI a)) (13 * N + 11) 1) (13 * N + 12) (mF_StepMachineModel_fetched m (nI a) 1) j = kp j
    rw [pk_un (by omega), pk_un (by omega), pk_un (by omega)]
theorem und_st2 {kp' r m' m : Nat → Int32} {N a : Nat} (hN : N < 100) (ha : a + 2 ≤ 131072) (e8 : kp' (13 * N + 8) = 0) (e10 : kp' (13 * N + 10) = nI a) (e11 : kp' (13 * N + 11) = 2) {F : Int32} (e12 : kp' (13 * N + 12) = F) (hu : (upd (upd m' (a + 0) ((F >>> ((0 : Int32) &&& 31)) &&& 255)) (a + 1) ((F >>> ((8 : Int32) &&& 31)) &&& 255)) = m) : UndM kp' N r m' r m := ⟨by rw [e8]; decide, fun _ => by rw [e10, e11]; exact ⟨by rw [nI_toInt (by omega)]; omega, by rw [nI_toInt (by omega), e_2]; omega⟩, by rw [e8, if_pos (by decide)], fun kn hL => (l153_2 hN ha hL e10 e11 _).trans (by rw [e12]; exact hu)⟩
theorem pw_st2 {k d pc' va put tak tg ju v kn : Int32} {reg c m kp vo mo : Nat → Int32} {N a : Nat} (hN : N < 100) (hL : mF_StepMachineModel_latest kn = nI (13 * N)) (h8 : kp (13 * N + 8) = 0) (hr0 : reg 0 = 0) (hm : Rm c m) (ho : Rb vo mo) (hd : 0 ≤ (rec8 k d).toInt ∧ (rec8 k d).toInt < 32) (he : pc' &&& 1 = 0) (ht : 0 ≤ tak.toInt) (hu : 0 ≤ put.toInt ∧ put.toInt ≤ 2000) (hs : ¬ cF_Word_isStore k = 0) (ha : a + 2 ≤ 131072) (hal : a % 2 = 0) : PWk k d (nI a) reg c m kp N (reg, cF_Memory_putNumber c (nI a) 2 v, pc', 0, 0, va, vo, put, tak) (reg, (mF_StepMachineModel_store kn m kp (nI a) 2 v).2, mo, put, tak, va, 0, 0, (mF_StepMachineModel_store kn m kp (nI a) 2 v).1, pc', tg, ju) := by
  have x10 : (mF_StepMachineModel_latest kn + 10).toNatClampNeg = 13 * N + 10 := lx (i := 10) hL (by omega)
  have x11 : (mF_StepMachineModel_latest kn + 11).toNatClampNeg = 13 * N + 11 := lx (i := 11) hL (by omega)
  have x12 : (mF_StepMachineModel_latest kn + 12).toNatClampNeg = 13 * N + 12 := lx (i := 12) hL (by omega)
  rw [mF_StepMachineModel_store, mF_StepMachineModel_store_1, x10, x11, x12, st_u2 m v ha]
  have e8 : (upd (upd (upd kp (13 * N + 10) (nI a)) (13 * N + 11) 2) (13 * N + 12) (mF_StepMachineModel_fetched m (nI a) 2)) (13 * N + 8) = 0 := by rw [pk_un (by omega), pk_un (by omega), pk_un (by omega), h8]
  have e10 : (upd (upd (upd kp (13 * N + 10) (nI a)) (13 * N + 11) 2) (13 * N + 12) (mF_StepMachineModel_fetched m (nI a) 2)) (13 * N + 10) = nI a := by rw [pk_un (by omega), pk_un (by omega), pk_us]
  have e11 : (upd (upd (upd kp (13 * N + 10) (nI a)) (13 * N + 11) 2) (13 * N + 12) (mF_StepMachineModel_fetched m (nI a) 2)) (13 * N + 11) = 2 := by rw [pk_un (by omega), pk_us]
  have e12 : (upd (upd (upd kp (13 * N + 10) (nI a)) (13 * N + 11) 2) (13 * N + 12) (mF_StepMachineModel_fetched m (nI a) 2)) (13 * N + 12) = mF_StepMachineModel_fetched m (nI a) 2 := pk_us
  refine ⟨rfl, rfl, rfl, rfl, rfl, rfl, rfl, put_2 hm v ha hal, ho, hr0, he, ht, hu, ⟨und_same hr0 hd, ?_⟩, und_st2 hN ha e8 e10 e11 e12 (undo_2 hm v ha hal), ?_⟩
  · show cF_Memory_putCell (cF_Memory_putNumber c (nI a) 2 v) (rec10 k (nI a)) (cF_Memory_cellOf c (rec10 k (nI a))) = c
    rw [rec10, if_neg hs]
    exact undo_c (by omega) _ _
  · intro j hj
    show upd (upd (upd kp (13 * N + 10) (nI a)) (13 * N + 11) 2) (13 * N + 12) (mF_StepMachineModel_fetched m (nI a) 2) j = kp j
    rw [pk_un (by omega), pk_un (by omega), pk_un (by omega)]
theorem und_st4 {kp' r m' m : Nat → Int32} {N a : Nat} (hN : N < 100) (ha : a + 4 ≤ 131072) (e8 : kp' (13 * N + 8) = 0) (e10 : kp' (13 * N + 10) = nI a) (e11 : kp' (13 * N + 11) = 4) {F : Int32} (e12 : kp' (13 * N + 12) = F) (hu : (upd (upd (upd (upd m' (a + 0) ((F >>> ((0 : Int32) &&& 31)) &&& 255)) (a + 1) ((F >>> ((8 : Int32) &&& 31)) &&& 255)) (a + 2) ((F >>> ((16 : Int32) &&& 31)) &&& 255)) (a + 3) ((F >>> ((24 : Int32) &&& 31)) &&& 255)) = m) : UndM kp' N r m' r m := ⟨by rw [e8]; decide, fun _ => by rw [e10, e11]; exact ⟨by rw [nI_toInt (by omega)]; omega, by rw [nI_toInt (by omega), e_4]; omega⟩, by rw [e8, if_pos (by decide)], fun kn hL => (l153_4 hN ha hL e10 e11 _).trans (by rw [e12]; exact hu)⟩
theorem pw_st4 {k d pc' va put tak tg ju v kn : Int32} {reg c m kp vo mo : Nat → Int32} {N a : Nat} (hN : N < 100) (hL : mF_StepMachineModel_latest kn = nI (13 * N)) (h8 : kp (13 * N + 8) = 0) (hr0 : reg 0 = 0) (hm : Rm c m) (ho : Rb vo mo) (hd : 0 ≤ (rec8 k d).toInt ∧ (rec8 k d).toInt < 32) (he : pc' &&& 1 = 0) (ht : 0 ≤ tak.toInt) (hu : 0 ≤ put.toInt ∧ put.toInt ≤ 2000) (hs : ¬ cF_Word_isStore k = 0) (ha : a + 4 ≤ 131072) (hal : a % 4 = 0) : PWk k d (nI a) reg c m kp N (reg, cF_Memory_putNumber c (nI a) 4 v, pc', 0, 0, va, vo, put, tak) (reg, (mF_StepMachineModel_store kn m kp (nI a) 4 v).2, mo, put, tak, va, 0, 0, (mF_StepMachineModel_store kn m kp (nI a) 4 v).1, pc', tg, ju) := by
  have x10 : (mF_StepMachineModel_latest kn + 10).toNatClampNeg = 13 * N + 10 := lx (i := 10) hL (by omega)
  have x11 : (mF_StepMachineModel_latest kn + 11).toNatClampNeg = 13 * N + 11 := lx (i := 11) hL (by omega)
  have x12 : (mF_StepMachineModel_latest kn + 12).toNatClampNeg = 13 * N + 12 := lx (i := 12) hL (by omega)
  rw [mF_StepMachineModel_store, mF_StepMachineModel_store_1, x10, x11, x12, st_u4 m v ha]
  have e8 : (upd (upd (upd kp (13 * N + 10) (nI a)) (13 * N + 11) 4) (13 * N + 12) (mF_StepMachineModel_fetched m (nI a) 4)) (13 * N + 8) = 0 := by rw [pk_un (by omega), pk_un (by omega), pk_un (by omega), h8]
  have e10 : (upd (upd (upd kp (13 * N + 10) (nI a)) (13 * N + 11) 4) (13 * N + 12) (mF_StepMachineModel_fetched m (nI a) 4)) (13 * N + 10) = nI a := by rw [pk_un (by omega), pk_un (by omega), pk_us]
  have e11 : (upd (upd (upd kp (13 * N + 10) (nI a)) (13 * N + 11) 4) (13 * N + 12) (mF_StepMachineModel_fetched m (nI a) 4)) (13 * N + 11) = 4 := by rw [pk_un (by omega), pk_us]
  have e12 : (upd (upd (upd kp (13 * N + 10) (nI a)) (13 * N + 11) 4) (13 * N + 12) (mF_StepMachineModel_fetched m (nI a) 4)) (13 * N + 12) = mF_StepMachineModel_fetched m (nI a) 4 := pk_us
  refine ⟨rfl, rfl, rfl, rfl, rfl, rfl, rfl, put_4 hm v ha hal, ho, hr0, he, ht, hu, ⟨und_same hr0 hd, ?_⟩, und_st4 hN ha e8 e10 e11 e12 (undo_4 hm v ha hal), ?_⟩
  · show cF_Memory_putCell (cF_Memory_putNumber c (nI a) 4 v) (rec10 k (nI a)) (cF_Memory_cellOf c (rec10 k (nI a))) = c
    rw [rec10, if_neg hs]
    exact undo_c (by omega) _ _
  · intro j hj
    show upd (upd (upd kp (13 * N + 10) (nI a)) (13 * N + 11) 4) (13 * N + 12) (mF_StepMachineModel_fetched m (nI a) 4) j = kp j
    rw [pk_un (by omega), pk_un (by omega), pk_un (by omega)]
theorem pw_0 {pc va sp n on giv tak put kn tg : Int32} {part reg c m vm mm vi mi vo mo kp : Nat → Int32} {N : Nat} (hN : N < 100) (hL : mF_StepMachineModel_latest kn = nI (13 * N)) (h8 : kp (13 * N + 8) = 0) (h10 : kp (13 * N + 10) = -1) (hr0 : reg 0 = 0) (hm : Rm c m) (ho : Rb vo mo) (hi : Rb vi mi) (hk : Rk vm mm) (hpc : pc &&& 1 = 0) (hn : n = 2 ∨ n = 4) (hp : ∀ p, p < 3 → 0 ≤ (part p).toInt ∧ (part p).toInt < 32) (hg : 0 ≤ giv.toInt ∧ giv.toInt ≤ 1000) (ht : 0 ≤ tak.toInt) (hu : 0 ≤ put.toInt ∧ put.toInt ≤ 2000) : PWk 0 (part 0) (cF_Core_address reg (part 1) (part 3)) reg c m kp N (cF_Core_perform pc 0 0 va sp reg n 0 (part 0) (part 1) (part 2) (part 3) on vm c giv tak put vi vo) (mF_StepMachineModel_work on pc giv tak put 0 0 va sp kn n 0 tg part m mm reg mi mo kp) := by
  have e1 : cF_Core_perform pc 0 0 va sp reg n 0 (part 0) (part 1) (part 2) (part 3) on vm c giv tak put vi vo = ((cF_Core_putRegister reg (part 0) ((part 3) <<< ((12 : Int32) &&& 31))).2, c, pc + n, 0, 0, va, vo, put, tak) := rfl
  have e2 : mF_StepMachineModel_work on pc giv tak put 0 0 va sp kn n 0 tg part m mm reg mi mo kp = ((mF_StepMachineModel_become kn reg kp (part 0) ((part 3) <<< ((12 : Int32) &&& 31))).1, (mF_StepMachineModel_become kn reg kp (part 0) ((part 3) <<< ((12 : Int32) &&& 31))).2, mo, put, tak, va, 0, 0, m, pc + n, tg, 0) := rfl
  rw [e1, e2]
  exact pw_reg hN hL h8 h10 hr0 hm ho (k := 0) (d := part 0) (hp 0 (by decide)) (ev_add hpc (ev_n hn)) ht hu (by decide)
theorem pw_1 {pc va sp n on giv tak put kn tg : Int32} {part reg c m vm mm vi mi vo mo kp : Nat → Int32} {N : Nat} (hN : N < 100) (hL : mF_StepMachineModel_latest kn = nI (13 * N)) (h8 : kp (13 * N + 8) = 0) (h10 : kp (13 * N + 10) = -1) (hr0 : reg 0 = 0) (hm : Rm c m) (ho : Rb vo mo) (hi : Rb vi mi) (hk : Rk vm mm) (hpc : pc &&& 1 = 0) (hn : n = 2 ∨ n = 4) (hp : ∀ p, p < 3 → 0 ≤ (part p).toInt ∧ (part p).toInt < 32) (hg : 0 ≤ giv.toInt ∧ giv.toInt ≤ 1000) (ht : 0 ≤ tak.toInt) (hu : 0 ≤ put.toInt ∧ put.toInt ≤ 2000) : PWk 1 (part 0) (cF_Core_address reg (part 1) (part 3)) reg c m kp N (cF_Core_perform pc 0 0 va sp reg n 1 (part 0) (part 1) (part 2) (part 3) on vm c giv tak put vi vo) (mF_StepMachineModel_work on pc giv tak put 0 0 va sp kn n 1 tg part m mm reg mi mo kp) := by
  have e1 : cF_Core_perform pc 0 0 va sp reg n 1 (part 0) (part 1) (part 2) (part 3) on vm c giv tak put vi vo = ((cF_Core_putRegister reg (part 0) (pc + ((part 3) <<< ((12 : Int32) &&& 31)))).2, c, pc + n, 0, 0, va, vo, put, tak) := rfl
  have e2 : mF_StepMachineModel_work on pc giv tak put 0 0 va sp kn n 1 tg part m mm reg mi mo kp = ((mF_StepMachineModel_become kn reg kp (part 0) (pc + ((part 3) <<< ((12 : Int32) &&& 31)))).1, (mF_StepMachineModel_become kn reg kp (part 0) (pc + ((part 3) <<< ((12 : Int32) &&& 31)))).2, mo, put, tak, va, 0, 0, m, pc + n, tg, 0) := rfl
  rw [e1, e2]
  exact pw_reg hN hL h8 h10 hr0 hm ho (k := 1) (d := part 0) (hp 0 (by decide)) (ev_add hpc (ev_n hn)) ht hu (by decide)
theorem pw_18 {pc va sp n on giv tak put kn tg : Int32} {part reg c m vm mm vi mi vo mo kp : Nat → Int32} {N : Nat} (hN : N < 100) (hL : mF_StepMachineModel_latest kn = nI (13 * N)) (h8 : kp (13 * N + 8) = 0) (h10 : kp (13 * N + 10) = -1) (hr0 : reg 0 = 0) (hm : Rm c m) (ho : Rb vo mo) (hi : Rb vi mi) (hk : Rk vm mm) (hpc : pc &&& 1 = 0) (hn : n = 2 ∨ n = 4) (hp : ∀ p, p < 3 → 0 ≤ (part p).toInt ∧ (part p).toInt < 32) (hg : 0 ≤ giv.toInt ∧ giv.toInt ≤ 1000) (ht : 0 ≤ tak.toInt) (hu : 0 ≤ put.toInt ∧ put.toInt ≤ 2000) : PWk 18 (part 0) (cF_Core_address reg (part 1) (part 3)) reg c m kp N (cF_Core_perform pc 0 0 va sp reg n 18 (part 0) (part 1) (part 2) (part 3) on vm c giv tak put vi vo) (mF_StepMachineModel_work on pc giv tak put 0 0 va sp kn n 18 tg part m mm reg mi mo kp) := by
  have e1 : cF_Core_perform pc 0 0 va sp reg n 18 (part 0) (part 1) (part 2) (part 3) on vm c giv tak put vi vo = ((cF_Core_putRegister reg (part 0) (cF_Arithmetic_result 18 (cF_Core_register reg (part 1)) (part 3))).2, c, pc + n, 0, 0, va, vo, put, tak) := rfl
  have e2 : mF_StepMachineModel_work on pc giv tak put 0 0 va sp kn n 18 tg part m mm reg mi mo kp = ((mF_StepMachineModel_become kn reg kp (part 0) (mF_StepMachineModel_reckoned 18 (reg (part 1).toNatClampNeg) (part 3))).1, (mF_StepMachineModel_become kn reg kp (part 0) (mF_StepMachineModel_reckoned 18 (reg (part 1).toNatClampNeg) (part 3))).2, mo, put, tak, va, 0, 0, m, pc + n, tg, 0) := rfl
  rw [reg_of hr0 (hp 1 (by decide)), res_alike (by decide) (by decide)] at e1
  rw [e1, e2]
  exact pw_reg hN hL h8 h10 hr0 hm ho (k := 18) (d := part 0) (hp 0 (by decide)) (ev_add hpc (ev_n hn)) ht hu (by decide)
theorem pw_19 {pc va sp n on giv tak put kn tg : Int32} {part reg c m vm mm vi mi vo mo kp : Nat → Int32} {N : Nat} (hN : N < 100) (hL : mF_StepMachineModel_latest kn = nI (13 * N)) (h8 : kp (13 * N + 8) = 0) (h10 : kp (13 * N + 10) = -1) (hr0 : reg 0 = 0) (hm : Rm c m) (ho : Rb vo mo) (hi : Rb vi mi) (hk : Rk vm mm) (hpc : pc &&& 1 = 0) (hn : n = 2 ∨ n = 4) (hp : ∀ p, p < 3 → 0 ≤ (part p).toInt ∧ (part p).toInt < 32) (hg : 0 ≤ giv.toInt ∧ giv.toInt ≤ 1000) (ht : 0 ≤ tak.toInt) (hu : 0 ≤ put.toInt ∧ put.toInt ≤ 2000) : PWk 19 (part 0) (cF_Core_address reg (part 1) (part 3)) reg c m kp N (cF_Core_perform pc 0 0 va sp reg n 19 (part 0) (part 1) (part 2) (part 3) on vm c giv tak put vi vo) (mF_StepMachineModel_work on pc giv tak put 0 0 va sp kn n 19 tg part m mm reg mi mo kp) := by
  have e1 : cF_Core_perform pc 0 0 va sp reg n 19 (part 0) (part 1) (part 2) (part 3) on vm c giv tak put vi vo = ((cF_Core_putRegister reg (part 0) (cF_Arithmetic_result 19 (cF_Core_register reg (part 1)) (part 3))).2, c, pc + n, 0, 0, va, vo, put, tak) := rfl
  have e2 : mF_StepMachineModel_work on pc giv tak put 0 0 va sp kn n 19 tg part m mm reg mi mo kp = ((mF_StepMachineModel_become kn reg kp (part 0) (mF_StepMachineModel_reckoned 19 (reg (part 1).toNatClampNeg) (part 3))).1, (mF_StepMachineModel_become kn reg kp (part 0) (mF_StepMachineModel_reckoned 19 (reg (part 1).toNatClampNeg) (part 3))).2, mo, put, tak, va, 0, 0, m, pc + n, tg, 0) := rfl
  rw [reg_of hr0 (hp 1 (by decide)), res_alike (by decide) (by decide)] at e1
  rw [e1, e2]
  exact pw_reg hN hL h8 h10 hr0 hm ho (k := 19) (d := part 0) (hp 0 (by decide)) (ev_add hpc (ev_n hn)) ht hu (by decide)
theorem pw_20 {pc va sp n on giv tak put kn tg : Int32} {part reg c m vm mm vi mi vo mo kp : Nat → Int32} {N : Nat} (hN : N < 100) (hL : mF_StepMachineModel_latest kn = nI (13 * N)) (h8 : kp (13 * N + 8) = 0) (h10 : kp (13 * N + 10) = -1) (hr0 : reg 0 = 0) (hm : Rm c m) (ho : Rb vo mo) (hi : Rb vi mi) (hk : Rk vm mm) (hpc : pc &&& 1 = 0) (hn : n = 2 ∨ n = 4) (hp : ∀ p, p < 3 → 0 ≤ (part p).toInt ∧ (part p).toInt < 32) (hg : 0 ≤ giv.toInt ∧ giv.toInt ≤ 1000) (ht : 0 ≤ tak.toInt) (hu : 0 ≤ put.toInt ∧ put.toInt ≤ 2000) : PWk 20 (part 0) (cF_Core_address reg (part 1) (part 3)) reg c m kp N (cF_Core_perform pc 0 0 va sp reg n 20 (part 0) (part 1) (part 2) (part 3) on vm c giv tak put vi vo) (mF_StepMachineModel_work on pc giv tak put 0 0 va sp kn n 20 tg part m mm reg mi mo kp) := by
  have e1 : cF_Core_perform pc 0 0 va sp reg n 20 (part 0) (part 1) (part 2) (part 3) on vm c giv tak put vi vo = ((cF_Core_putRegister reg (part 0) (cF_Arithmetic_result 20 (cF_Core_register reg (part 1)) (part 3))).2, c, pc + n, 0, 0, va, vo, put, tak) := rfl
  have e2 : mF_StepMachineModel_work on pc giv tak put 0 0 va sp kn n 20 tg part m mm reg mi mo kp = ((mF_StepMachineModel_become kn reg kp (part 0) (mF_StepMachineModel_reckoned 20 (reg (part 1).toNatClampNeg) (part 3))).1, (mF_StepMachineModel_become kn reg kp (part 0) (mF_StepMachineModel_reckoned 20 (reg (part 1).toNatClampNeg) (part 3))).2, mo, put, tak, va, 0, 0, m, pc + n, tg, 0) := rfl
  rw [reg_of hr0 (hp 1 (by decide)), res_alike (by decide) (by decide)] at e1
  rw [e1, e2]
  exact pw_reg hN hL h8 h10 hr0 hm ho (k := 20) (d := part 0) (hp 0 (by decide)) (ev_add hpc (ev_n hn)) ht hu (by decide)
theorem pw_21 {pc va sp n on giv tak put kn tg : Int32} {part reg c m vm mm vi mi vo mo kp : Nat → Int32} {N : Nat} (hN : N < 100) (hL : mF_StepMachineModel_latest kn = nI (13 * N)) (h8 : kp (13 * N + 8) = 0) (h10 : kp (13 * N + 10) = -1) (hr0 : reg 0 = 0) (hm : Rm c m) (ho : Rb vo mo) (hi : Rb vi mi) (hk : Rk vm mm) (hpc : pc &&& 1 = 0) (hn : n = 2 ∨ n = 4) (hp : ∀ p, p < 3 → 0 ≤ (part p).toInt ∧ (part p).toInt < 32) (hg : 0 ≤ giv.toInt ∧ giv.toInt ≤ 1000) (ht : 0 ≤ tak.toInt) (hu : 0 ≤ put.toInt ∧ put.toInt ≤ 2000) : PWk 21 (part 0) (cF_Core_address reg (part 1) (part 3)) reg c m kp N (cF_Core_perform pc 0 0 va sp reg n 21 (part 0) (part 1) (part 2) (part 3) on vm c giv tak put vi vo) (mF_StepMachineModel_work on pc giv tak put 0 0 va sp kn n 21 tg part m mm reg mi mo kp) := by
  have e1 : cF_Core_perform pc 0 0 va sp reg n 21 (part 0) (part 1) (part 2) (part 3) on vm c giv tak put vi vo = ((cF_Core_putRegister reg (part 0) (cF_Arithmetic_result 21 (cF_Core_register reg (part 1)) (part 3))).2, c, pc + n, 0, 0, va, vo, put, tak) := rfl
  have e2 : mF_StepMachineModel_work on pc giv tak put 0 0 va sp kn n 21 tg part m mm reg mi mo kp = ((mF_StepMachineModel_become kn reg kp (part 0) (mF_StepMachineModel_reckoned 21 (reg (part 1).toNatClampNeg) (part 3))).1, (mF_StepMachineModel_become kn reg kp (part 0) (mF_StepMachineModel_reckoned 21 (reg (part 1).toNatClampNeg) (part 3))).2, mo, put, tak, va, 0, 0, m, pc + n, tg, 0) := rfl
  rw [reg_of hr0 (hp 1 (by decide)), res_alike (by decide) (by decide)] at e1
  rw [e1, e2]
  exact pw_reg hN hL h8 h10 hr0 hm ho (k := 21) (d := part 0) (hp 0 (by decide)) (ev_add hpc (ev_n hn)) ht hu (by decide)
theorem pw_22 {pc va sp n on giv tak put kn tg : Int32} {part reg c m vm mm vi mi vo mo kp : Nat → Int32} {N : Nat} (hN : N < 100) (hL : mF_StepMachineModel_latest kn = nI (13 * N)) (h8 : kp (13 * N + 8) = 0) (h10 : kp (13 * N + 10) = -1) (hr0 : reg 0 = 0) (hm : Rm c m) (ho : Rb vo mo) (hi : Rb vi mi) (hk : Rk vm mm) (hpc : pc &&& 1 = 0) (hn : n = 2 ∨ n = 4) (hp : ∀ p, p < 3 → 0 ≤ (part p).toInt ∧ (part p).toInt < 32) (hg : 0 ≤ giv.toInt ∧ giv.toInt ≤ 1000) (ht : 0 ≤ tak.toInt) (hu : 0 ≤ put.toInt ∧ put.toInt ≤ 2000) : PWk 22 (part 0) (cF_Core_address reg (part 1) (part 3)) reg c m kp N (cF_Core_perform pc 0 0 va sp reg n 22 (part 0) (part 1) (part 2) (part 3) on vm c giv tak put vi vo) (mF_StepMachineModel_work on pc giv tak put 0 0 va sp kn n 22 tg part m mm reg mi mo kp) := by
  have e1 : cF_Core_perform pc 0 0 va sp reg n 22 (part 0) (part 1) (part 2) (part 3) on vm c giv tak put vi vo = ((cF_Core_putRegister reg (part 0) (cF_Arithmetic_result 22 (cF_Core_register reg (part 1)) (part 3))).2, c, pc + n, 0, 0, va, vo, put, tak) := rfl
  have e2 : mF_StepMachineModel_work on pc giv tak put 0 0 va sp kn n 22 tg part m mm reg mi mo kp = ((mF_StepMachineModel_become kn reg kp (part 0) (mF_StepMachineModel_reckoned 22 (reg (part 1).toNatClampNeg) (part 3))).1, (mF_StepMachineModel_become kn reg kp (part 0) (mF_StepMachineModel_reckoned 22 (reg (part 1).toNatClampNeg) (part 3))).2, mo, put, tak, va, 0, 0, m, pc + n, tg, 0) := rfl
  rw [reg_of hr0 (hp 1 (by decide)), res_alike (by decide) (by decide)] at e1
  rw [e1, e2]
  exact pw_reg hN hL h8 h10 hr0 hm ho (k := 22) (d := part 0) (hp 0 (by decide)) (ev_add hpc (ev_n hn)) ht hu (by decide)
theorem pw_23 {pc va sp n on giv tak put kn tg : Int32} {part reg c m vm mm vi mi vo mo kp : Nat → Int32} {N : Nat} (hN : N < 100) (hL : mF_StepMachineModel_latest kn = nI (13 * N)) (h8 : kp (13 * N + 8) = 0) (h10 : kp (13 * N + 10) = -1) (hr0 : reg 0 = 0) (hm : Rm c m) (ho : Rb vo mo) (hi : Rb vi mi) (hk : Rk vm mm) (hpc : pc &&& 1 = 0) (hn : n = 2 ∨ n = 4) (hp : ∀ p, p < 3 → 0 ≤ (part p).toInt ∧ (part p).toInt < 32) (hg : 0 ≤ giv.toInt ∧ giv.toInt ≤ 1000) (ht : 0 ≤ tak.toInt) (hu : 0 ≤ put.toInt ∧ put.toInt ≤ 2000) : PWk 23 (part 0) (cF_Core_address reg (part 1) (part 3)) reg c m kp N (cF_Core_perform pc 0 0 va sp reg n 23 (part 0) (part 1) (part 2) (part 3) on vm c giv tak put vi vo) (mF_StepMachineModel_work on pc giv tak put 0 0 va sp kn n 23 tg part m mm reg mi mo kp) := by
  have e1 : cF_Core_perform pc 0 0 va sp reg n 23 (part 0) (part 1) (part 2) (part 3) on vm c giv tak put vi vo = ((cF_Core_putRegister reg (part 0) (cF_Arithmetic_result 23 (cF_Core_register reg (part 1)) (part 3))).2, c, pc + n, 0, 0, va, vo, put, tak) := rfl
  have e2 : mF_StepMachineModel_work on pc giv tak put 0 0 va sp kn n 23 tg part m mm reg mi mo kp = ((mF_StepMachineModel_become kn reg kp (part 0) (mF_StepMachineModel_reckoned 23 (reg (part 1).toNatClampNeg) (part 3))).1, (mF_StepMachineModel_become kn reg kp (part 0) (mF_StepMachineModel_reckoned 23 (reg (part 1).toNatClampNeg) (part 3))).2, mo, put, tak, va, 0, 0, m, pc + n, tg, 0) := rfl
  rw [reg_of hr0 (hp 1 (by decide)), res_alike (by decide) (by decide)] at e1
  rw [e1, e2]
  exact pw_reg hN hL h8 h10 hr0 hm ho (k := 23) (d := part 0) (hp 0 (by decide)) (ev_add hpc (ev_n hn)) ht hu (by decide)
theorem pw_24 {pc va sp n on giv tak put kn tg : Int32} {part reg c m vm mm vi mi vo mo kp : Nat → Int32} {N : Nat} (hN : N < 100) (hL : mF_StepMachineModel_latest kn = nI (13 * N)) (h8 : kp (13 * N + 8) = 0) (h10 : kp (13 * N + 10) = -1) (hr0 : reg 0 = 0) (hm : Rm c m) (ho : Rb vo mo) (hi : Rb vi mi) (hk : Rk vm mm) (hpc : pc &&& 1 = 0) (hn : n = 2 ∨ n = 4) (hp : ∀ p, p < 3 → 0 ≤ (part p).toInt ∧ (part p).toInt < 32) (hg : 0 ≤ giv.toInt ∧ giv.toInt ≤ 1000) (ht : 0 ≤ tak.toInt) (hu : 0 ≤ put.toInt ∧ put.toInt ≤ 2000) : PWk 24 (part 0) (cF_Core_address reg (part 1) (part 3)) reg c m kp N (cF_Core_perform pc 0 0 va sp reg n 24 (part 0) (part 1) (part 2) (part 3) on vm c giv tak put vi vo) (mF_StepMachineModel_work on pc giv tak put 0 0 va sp kn n 24 tg part m mm reg mi mo kp) := by
  have e1 : cF_Core_perform pc 0 0 va sp reg n 24 (part 0) (part 1) (part 2) (part 3) on vm c giv tak put vi vo = ((cF_Core_putRegister reg (part 0) (cF_Arithmetic_result 24 (cF_Core_register reg (part 1)) (part 3))).2, c, pc + n, 0, 0, va, vo, put, tak) := rfl
  have e2 : mF_StepMachineModel_work on pc giv tak put 0 0 va sp kn n 24 tg part m mm reg mi mo kp = ((mF_StepMachineModel_become kn reg kp (part 0) (mF_StepMachineModel_reckoned 24 (reg (part 1).toNatClampNeg) (part 3))).1, (mF_StepMachineModel_become kn reg kp (part 0) (mF_StepMachineModel_reckoned 24 (reg (part 1).toNatClampNeg) (part 3))).2, mo, put, tak, va, 0, 0, m, pc + n, tg, 0) := rfl
  rw [reg_of hr0 (hp 1 (by decide)), res_alike (by decide) (by decide)] at e1
  rw [e1, e2]
  exact pw_reg hN hL h8 h10 hr0 hm ho (k := 24) (d := part 0) (hp 0 (by decide)) (ev_add hpc (ev_n hn)) ht hu (by decide)
theorem pw_25 {pc va sp n on giv tak put kn tg : Int32} {part reg c m vm mm vi mi vo mo kp : Nat → Int32} {N : Nat} (hN : N < 100) (hL : mF_StepMachineModel_latest kn = nI (13 * N)) (h8 : kp (13 * N + 8) = 0) (h10 : kp (13 * N + 10) = -1) (hr0 : reg 0 = 0) (hm : Rm c m) (ho : Rb vo mo) (hi : Rb vi mi) (hk : Rk vm mm) (hpc : pc &&& 1 = 0) (hn : n = 2 ∨ n = 4) (hp : ∀ p, p < 3 → 0 ≤ (part p).toInt ∧ (part p).toInt < 32) (hg : 0 ≤ giv.toInt ∧ giv.toInt ≤ 1000) (ht : 0 ≤ tak.toInt) (hu : 0 ≤ put.toInt ∧ put.toInt ≤ 2000) : PWk 25 (part 0) (cF_Core_address reg (part 1) (part 3)) reg c m kp N (cF_Core_perform pc 0 0 va sp reg n 25 (part 0) (part 1) (part 2) (part 3) on vm c giv tak put vi vo) (mF_StepMachineModel_work on pc giv tak put 0 0 va sp kn n 25 tg part m mm reg mi mo kp) := by
  have e1 : cF_Core_perform pc 0 0 va sp reg n 25 (part 0) (part 1) (part 2) (part 3) on vm c giv tak put vi vo = ((cF_Core_putRegister reg (part 0) (cF_Arithmetic_result 25 (cF_Core_register reg (part 1)) (part 3))).2, c, pc + n, 0, 0, va, vo, put, tak) := rfl
  have e2 : mF_StepMachineModel_work on pc giv tak put 0 0 va sp kn n 25 tg part m mm reg mi mo kp = ((mF_StepMachineModel_become kn reg kp (part 0) (mF_StepMachineModel_reckoned 25 (reg (part 1).toNatClampNeg) (part 3))).1, (mF_StepMachineModel_become kn reg kp (part 0) (mF_StepMachineModel_reckoned 25 (reg (part 1).toNatClampNeg) (part 3))).2, mo, put, tak, va, 0, 0, m, pc + n, tg, 0) := rfl
  rw [reg_of hr0 (hp 1 (by decide)), res_alike (by decide) (by decide)] at e1
  rw [e1, e2]
  exact pw_reg hN hL h8 h10 hr0 hm ho (k := 25) (d := part 0) (hp 0 (by decide)) (ev_add hpc (ev_n hn)) ht hu (by decide)
theorem pw_26 {pc va sp n on giv tak put kn tg : Int32} {part reg c m vm mm vi mi vo mo kp : Nat → Int32} {N : Nat} (hN : N < 100) (hL : mF_StepMachineModel_latest kn = nI (13 * N)) (h8 : kp (13 * N + 8) = 0) (h10 : kp (13 * N + 10) = -1) (hr0 : reg 0 = 0) (hm : Rm c m) (ho : Rb vo mo) (hi : Rb vi mi) (hk : Rk vm mm) (hpc : pc &&& 1 = 0) (hn : n = 2 ∨ n = 4) (hp : ∀ p, p < 3 → 0 ≤ (part p).toInt ∧ (part p).toInt < 32) (hg : 0 ≤ giv.toInt ∧ giv.toInt ≤ 1000) (ht : 0 ≤ tak.toInt) (hu : 0 ≤ put.toInt ∧ put.toInt ≤ 2000) : PWk 26 (part 0) (cF_Core_address reg (part 1) (part 3)) reg c m kp N (cF_Core_perform pc 0 0 va sp reg n 26 (part 0) (part 1) (part 2) (part 3) on vm c giv tak put vi vo) (mF_StepMachineModel_work on pc giv tak put 0 0 va sp kn n 26 tg part m mm reg mi mo kp) := by
  have e1 : cF_Core_perform pc 0 0 va sp reg n 26 (part 0) (part 1) (part 2) (part 3) on vm c giv tak put vi vo = ((cF_Core_putRegister reg (part 0) (cF_Arithmetic_result 26 (cF_Core_register reg (part 1)) (part 3))).2, c, pc + n, 0, 0, va, vo, put, tak) := rfl
  have e2 : mF_StepMachineModel_work on pc giv tak put 0 0 va sp kn n 26 tg part m mm reg mi mo kp = ((mF_StepMachineModel_become kn reg kp (part 0) (mF_StepMachineModel_reckoned 26 (reg (part 1).toNatClampNeg) (part 3))).1, (mF_StepMachineModel_become kn reg kp (part 0) (mF_StepMachineModel_reckoned 26 (reg (part 1).toNatClampNeg) (part 3))).2, mo, put, tak, va, 0, 0, m, pc + n, tg, 0) := rfl
  rw [reg_of hr0 (hp 1 (by decide)), res_alike (by decide) (by decide)] at e1
  rw [e1, e2]
  exact pw_reg hN hL h8 h10 hr0 hm ho (k := 26) (d := part 0) (hp 0 (by decide)) (ev_add hpc (ev_n hn)) ht hu (by decide)
theorem pw_27 {pc va sp n on giv tak put kn tg : Int32} {part reg c m vm mm vi mi vo mo kp : Nat → Int32} {N : Nat} (hN : N < 100) (hL : mF_StepMachineModel_latest kn = nI (13 * N)) (h8 : kp (13 * N + 8) = 0) (h10 : kp (13 * N + 10) = -1) (hr0 : reg 0 = 0) (hm : Rm c m) (ho : Rb vo mo) (hi : Rb vi mi) (hk : Rk vm mm) (hpc : pc &&& 1 = 0) (hn : n = 2 ∨ n = 4) (hp : ∀ p, p < 3 → 0 ≤ (part p).toInt ∧ (part p).toInt < 32) (hg : 0 ≤ giv.toInt ∧ giv.toInt ≤ 1000) (ht : 0 ≤ tak.toInt) (hu : 0 ≤ put.toInt ∧ put.toInt ≤ 2000) : PWk 27 (part 0) (cF_Core_address reg (part 1) (part 3)) reg c m kp N (cF_Core_perform pc 0 0 va sp reg n 27 (part 0) (part 1) (part 2) (part 3) on vm c giv tak put vi vo) (mF_StepMachineModel_work on pc giv tak put 0 0 va sp kn n 27 tg part m mm reg mi mo kp) := by
  have e1 : cF_Core_perform pc 0 0 va sp reg n 27 (part 0) (part 1) (part 2) (part 3) on vm c giv tak put vi vo = ((cF_Core_putRegister reg (part 0) (cF_Arithmetic_result 27 (cF_Core_register reg (part 1)) (cF_Core_register reg (part 2)))).2, c, pc + n, 0, 0, va, vo, put, tak) := rfl
  have e2 : mF_StepMachineModel_work on pc giv tak put 0 0 va sp kn n 27 tg part m mm reg mi mo kp = ((mF_StepMachineModel_become kn reg kp (part 0) (mF_StepMachineModel_reckoned 27 (reg (part 1).toNatClampNeg) (reg (part 2).toNatClampNeg))).1, (mF_StepMachineModel_become kn reg kp (part 0) (mF_StepMachineModel_reckoned 27 (reg (part 1).toNatClampNeg) (reg (part 2).toNatClampNeg))).2, mo, put, tak, va, 0, 0, m, pc + n, tg, 0) := rfl
  rw [reg_of hr0 (hp 1 (by decide)), reg_of hr0 (hp 2 (by decide)), res_alike (by decide) (by decide)] at e1
  rw [e1, e2]
  exact pw_reg hN hL h8 h10 hr0 hm ho (k := 27) (d := part 0) (hp 0 (by decide)) (ev_add hpc (ev_n hn)) ht hu (by decide)
theorem pw_28 {pc va sp n on giv tak put kn tg : Int32} {part reg c m vm mm vi mi vo mo kp : Nat → Int32} {N : Nat} (hN : N < 100) (hL : mF_StepMachineModel_latest kn = nI (13 * N)) (h8 : kp (13 * N + 8) = 0) (h10 : kp (13 * N + 10) = -1) (hr0 : reg 0 = 0) (hm : Rm c m) (ho : Rb vo mo) (hi : Rb vi mi) (hk : Rk vm mm) (hpc : pc &&& 1 = 0) (hn : n = 2 ∨ n = 4) (hp : ∀ p, p < 3 → 0 ≤ (part p).toInt ∧ (part p).toInt < 32) (hg : 0 ≤ giv.toInt ∧ giv.toInt ≤ 1000) (ht : 0 ≤ tak.toInt) (hu : 0 ≤ put.toInt ∧ put.toInt ≤ 2000) : PWk 28 (part 0) (cF_Core_address reg (part 1) (part 3)) reg c m kp N (cF_Core_perform pc 0 0 va sp reg n 28 (part 0) (part 1) (part 2) (part 3) on vm c giv tak put vi vo) (mF_StepMachineModel_work on pc giv tak put 0 0 va sp kn n 28 tg part m mm reg mi mo kp) := by
  have e1 : cF_Core_perform pc 0 0 va sp reg n 28 (part 0) (part 1) (part 2) (part 3) on vm c giv tak put vi vo = ((cF_Core_putRegister reg (part 0) (cF_Arithmetic_result 28 (cF_Core_register reg (part 1)) (cF_Core_register reg (part 2)))).2, c, pc + n, 0, 0, va, vo, put, tak) := rfl
  have e2 : mF_StepMachineModel_work on pc giv tak put 0 0 va sp kn n 28 tg part m mm reg mi mo kp = ((mF_StepMachineModel_become kn reg kp (part 0) (mF_StepMachineModel_reckoned 28 (reg (part 1).toNatClampNeg) (reg (part 2).toNatClampNeg))).1, (mF_StepMachineModel_become kn reg kp (part 0) (mF_StepMachineModel_reckoned 28 (reg (part 1).toNatClampNeg) (reg (part 2).toNatClampNeg))).2, mo, put, tak, va, 0, 0, m, pc + n, tg, 0) := rfl
  rw [reg_of hr0 (hp 1 (by decide)), reg_of hr0 (hp 2 (by decide)), res_alike (by decide) (by decide)] at e1
  rw [e1, e2]
  exact pw_reg hN hL h8 h10 hr0 hm ho (k := 28) (d := part 0) (hp 0 (by decide)) (ev_add hpc (ev_n hn)) ht hu (by decide)
theorem pw_29 {pc va sp n on giv tak put kn tg : Int32} {part reg c m vm mm vi mi vo mo kp : Nat → Int32} {N : Nat} (hN : N < 100) (hL : mF_StepMachineModel_latest kn = nI (13 * N)) (h8 : kp (13 * N + 8) = 0) (h10 : kp (13 * N + 10) = -1) (hr0 : reg 0 = 0) (hm : Rm c m) (ho : Rb vo mo) (hi : Rb vi mi) (hk : Rk vm mm) (hpc : pc &&& 1 = 0) (hn : n = 2 ∨ n = 4) (hp : ∀ p, p < 3 → 0 ≤ (part p).toInt ∧ (part p).toInt < 32) (hg : 0 ≤ giv.toInt ∧ giv.toInt ≤ 1000) (ht : 0 ≤ tak.toInt) (hu : 0 ≤ put.toInt ∧ put.toInt ≤ 2000) : PWk 29 (part 0) (cF_Core_address reg (part 1) (part 3)) reg c m kp N (cF_Core_perform pc 0 0 va sp reg n 29 (part 0) (part 1) (part 2) (part 3) on vm c giv tak put vi vo) (mF_StepMachineModel_work on pc giv tak put 0 0 va sp kn n 29 tg part m mm reg mi mo kp) := by
  have e1 : cF_Core_perform pc 0 0 va sp reg n 29 (part 0) (part 1) (part 2) (part 3) on vm c giv tak put vi vo = ((cF_Core_putRegister reg (part 0) (cF_Arithmetic_result 29 (cF_Core_register reg (part 1)) (cF_Core_register reg (part 2)))).2, c, pc + n, 0, 0, va, vo, put, tak) := rfl
  have e2 : mF_StepMachineModel_work on pc giv tak put 0 0 va sp kn n 29 tg part m mm reg mi mo kp = ((mF_StepMachineModel_become kn reg kp (part 0) (mF_StepMachineModel_reckoned 29 (reg (part 1).toNatClampNeg) (reg (part 2).toNatClampNeg))).1, (mF_StepMachineModel_become kn reg kp (part 0) (mF_StepMachineModel_reckoned 29 (reg (part 1).toNatClampNeg) (reg (part 2).toNatClampNeg))).2, mo, put, tak, va, 0, 0, m, pc + n, tg, 0) := rfl
  rw [reg_of hr0 (hp 1 (by decide)), reg_of hr0 (hp 2 (by decide)), res_alike (by decide) (by decide)] at e1
  rw [e1, e2]
  exact pw_reg hN hL h8 h10 hr0 hm ho (k := 29) (d := part 0) (hp 0 (by decide)) (ev_add hpc (ev_n hn)) ht hu (by decide)
theorem pw_30 {pc va sp n on giv tak put kn tg : Int32} {part reg c m vm mm vi mi vo mo kp : Nat → Int32} {N : Nat} (hN : N < 100) (hL : mF_StepMachineModel_latest kn = nI (13 * N)) (h8 : kp (13 * N + 8) = 0) (h10 : kp (13 * N + 10) = -1) (hr0 : reg 0 = 0) (hm : Rm c m) (ho : Rb vo mo) (hi : Rb vi mi) (hk : Rk vm mm) (hpc : pc &&& 1 = 0) (hn : n = 2 ∨ n = 4) (hp : ∀ p, p < 3 → 0 ≤ (part p).toInt ∧ (part p).toInt < 32) (hg : 0 ≤ giv.toInt ∧ giv.toInt ≤ 1000) (ht : 0 ≤ tak.toInt) (hu : 0 ≤ put.toInt ∧ put.toInt ≤ 2000) : PWk 30 (part 0) (cF_Core_address reg (part 1) (part 3)) reg c m kp N (cF_Core_perform pc 0 0 va sp reg n 30 (part 0) (part 1) (part 2) (part 3) on vm c giv tak put vi vo) (mF_StepMachineModel_work on pc giv tak put 0 0 va sp kn n 30 tg part m mm reg mi mo kp) := by
  have e1 : cF_Core_perform pc 0 0 va sp reg n 30 (part 0) (part 1) (part 2) (part 3) on vm c giv tak put vi vo = ((cF_Core_putRegister reg (part 0) (cF_Arithmetic_result 30 (cF_Core_register reg (part 1)) (cF_Core_register reg (part 2)))).2, c, pc + n, 0, 0, va, vo, put, tak) := rfl
  have e2 : mF_StepMachineModel_work on pc giv tak put 0 0 va sp kn n 30 tg part m mm reg mi mo kp = ((mF_StepMachineModel_become kn reg kp (part 0) (mF_StepMachineModel_reckoned 30 (reg (part 1).toNatClampNeg) (reg (part 2).toNatClampNeg))).1, (mF_StepMachineModel_become kn reg kp (part 0) (mF_StepMachineModel_reckoned 30 (reg (part 1).toNatClampNeg) (reg (part 2).toNatClampNeg))).2, mo, put, tak, va, 0, 0, m, pc + n, tg, 0) := rfl
  rw [reg_of hr0 (hp 1 (by decide)), reg_of hr0 (hp 2 (by decide)), res_alike (by decide) (by decide)] at e1
  rw [e1, e2]
  exact pw_reg hN hL h8 h10 hr0 hm ho (k := 30) (d := part 0) (hp 0 (by decide)) (ev_add hpc (ev_n hn)) ht hu (by decide)
theorem pw_31 {pc va sp n on giv tak put kn tg : Int32} {part reg c m vm mm vi mi vo mo kp : Nat → Int32} {N : Nat} (hN : N < 100) (hL : mF_StepMachineModel_latest kn = nI (13 * N)) (h8 : kp (13 * N + 8) = 0) (h10 : kp (13 * N + 10) = -1) (hr0 : reg 0 = 0) (hm : Rm c m) (ho : Rb vo mo) (hi : Rb vi mi) (hk : Rk vm mm) (hpc : pc &&& 1 = 0) (hn : n = 2 ∨ n = 4) (hp : ∀ p, p < 3 → 0 ≤ (part p).toInt ∧ (part p).toInt < 32) (hg : 0 ≤ giv.toInt ∧ giv.toInt ≤ 1000) (ht : 0 ≤ tak.toInt) (hu : 0 ≤ put.toInt ∧ put.toInt ≤ 2000) : PWk 31 (part 0) (cF_Core_address reg (part 1) (part 3)) reg c m kp N (cF_Core_perform pc 0 0 va sp reg n 31 (part 0) (part 1) (part 2) (part 3) on vm c giv tak put vi vo) (mF_StepMachineModel_work on pc giv tak put 0 0 va sp kn n 31 tg part m mm reg mi mo kp) := by
  have e1 : cF_Core_perform pc 0 0 va sp reg n 31 (part 0) (part 1) (part 2) (part 3) on vm c giv tak put vi vo = ((cF_Core_putRegister reg (part 0) (cF_Arithmetic_result 31 (cF_Core_register reg (part 1)) (cF_Core_register reg (part 2)))).2, c, pc + n, 0, 0, va, vo, put, tak) := rfl
  have e2 : mF_StepMachineModel_work on pc giv tak put 0 0 va sp kn n 31 tg part m mm reg mi mo kp = ((mF_StepMachineModel_become kn reg kp (part 0) (mF_StepMachineModel_reckoned 31 (reg (part 1).toNatClampNeg) (reg (part 2).toNatClampNeg))).1, (mF_StepMachineModel_become kn reg kp (part 0) (mF_StepMachineModel_reckoned 31 (reg (part 1).toNatClampNeg) (reg (part 2).toNatClampNeg))).2, mo, put, tak, va, 0, 0, m, pc + n, tg, 0) := rfl
  rw [reg_of hr0 (hp 1 (by decide)), reg_of hr0 (hp 2 (by decide)), res_alike (by decide) (by decide)] at e1
  rw [e1, e2]
  exact pw_reg hN hL h8 h10 hr0 hm ho (k := 31) (d := part 0) (hp 0 (by decide)) (ev_add hpc (ev_n hn)) ht hu (by decide)
theorem pw_32 {pc va sp n on giv tak put kn tg : Int32} {part reg c m vm mm vi mi vo mo kp : Nat → Int32} {N : Nat} (hN : N < 100) (hL : mF_StepMachineModel_latest kn = nI (13 * N)) (h8 : kp (13 * N + 8) = 0) (h10 : kp (13 * N + 10) = -1) (hr0 : reg 0 = 0) (hm : Rm c m) (ho : Rb vo mo) (hi : Rb vi mi) (hk : Rk vm mm) (hpc : pc &&& 1 = 0) (hn : n = 2 ∨ n = 4) (hp : ∀ p, p < 3 → 0 ≤ (part p).toInt ∧ (part p).toInt < 32) (hg : 0 ≤ giv.toInt ∧ giv.toInt ≤ 1000) (ht : 0 ≤ tak.toInt) (hu : 0 ≤ put.toInt ∧ put.toInt ≤ 2000) : PWk 32 (part 0) (cF_Core_address reg (part 1) (part 3)) reg c m kp N (cF_Core_perform pc 0 0 va sp reg n 32 (part 0) (part 1) (part 2) (part 3) on vm c giv tak put vi vo) (mF_StepMachineModel_work on pc giv tak put 0 0 va sp kn n 32 tg part m mm reg mi mo kp) := by
  have e1 : cF_Core_perform pc 0 0 va sp reg n 32 (part 0) (part 1) (part 2) (part 3) on vm c giv tak put vi vo = ((cF_Core_putRegister reg (part 0) (cF_Arithmetic_result 32 (cF_Core_register reg (part 1)) (cF_Core_register reg (part 2)))).2, c, pc + n, 0, 0, va, vo, put, tak) := rfl
  have e2 : mF_StepMachineModel_work on pc giv tak put 0 0 va sp kn n 32 tg part m mm reg mi mo kp = ((mF_StepMachineModel_become kn reg kp (part 0) (mF_StepMachineModel_reckoned 32 (reg (part 1).toNatClampNeg) (reg (part 2).toNatClampNeg))).1, (mF_StepMachineModel_become kn reg kp (part 0) (mF_StepMachineModel_reckoned 32 (reg (part 1).toNatClampNeg) (reg (part 2).toNatClampNeg))).2, mo, put, tak, va, 0, 0, m, pc + n, tg, 0) := rfl
  rw [reg_of hr0 (hp 1 (by decide)), reg_of hr0 (hp 2 (by decide)), res_alike (by decide) (by decide)] at e1
  rw [e1, e2]
  exact pw_reg hN hL h8 h10 hr0 hm ho (k := 32) (d := part 0) (hp 0 (by decide)) (ev_add hpc (ev_n hn)) ht hu (by decide)
theorem pw_33 {pc va sp n on giv tak put kn tg : Int32} {part reg c m vm mm vi mi vo mo kp : Nat → Int32} {N : Nat} (hN : N < 100) (hL : mF_StepMachineModel_latest kn = nI (13 * N)) (h8 : kp (13 * N + 8) = 0) (h10 : kp (13 * N + 10) = -1) (hr0 : reg 0 = 0) (hm : Rm c m) (ho : Rb vo mo) (hi : Rb vi mi) (hk : Rk vm mm) (hpc : pc &&& 1 = 0) (hn : n = 2 ∨ n = 4) (hp : ∀ p, p < 3 → 0 ≤ (part p).toInt ∧ (part p).toInt < 32) (hg : 0 ≤ giv.toInt ∧ giv.toInt ≤ 1000) (ht : 0 ≤ tak.toInt) (hu : 0 ≤ put.toInt ∧ put.toInt ≤ 2000) : PWk 33 (part 0) (cF_Core_address reg (part 1) (part 3)) reg c m kp N (cF_Core_perform pc 0 0 va sp reg n 33 (part 0) (part 1) (part 2) (part 3) on vm c giv tak put vi vo) (mF_StepMachineModel_work on pc giv tak put 0 0 va sp kn n 33 tg part m mm reg mi mo kp) := by
  have e1 : cF_Core_perform pc 0 0 va sp reg n 33 (part 0) (part 1) (part 2) (part 3) on vm c giv tak put vi vo = ((cF_Core_putRegister reg (part 0) (cF_Arithmetic_result 33 (cF_Core_register reg (part 1)) (cF_Core_register reg (part 2)))).2, c, pc + n, 0, 0, va, vo, put, tak) := rfl
  have e2 : mF_StepMachineModel_work on pc giv tak put 0 0 va sp kn n 33 tg part m mm reg mi mo kp = ((mF_StepMachineModel_become kn reg kp (part 0) (mF_StepMachineModel_reckoned 33 (reg (part 1).toNatClampNeg) (reg (part 2).toNatClampNeg))).1, (mF_StepMachineModel_become kn reg kp (part 0) (mF_StepMachineModel_reckoned 33 (reg (part 1).toNatClampNeg) (reg (part 2).toNatClampNeg))).2, mo, put, tak, va, 0, 0, m, pc + n, tg, 0) := rfl
  rw [reg_of hr0 (hp 1 (by decide)), reg_of hr0 (hp 2 (by decide)), res_alike (by decide) (by decide)] at e1
  rw [e1, e2]
  exact pw_reg hN hL h8 h10 hr0 hm ho (k := 33) (d := part 0) (hp 0 (by decide)) (ev_add hpc (ev_n hn)) ht hu (by decide)
theorem pw_34 {pc va sp n on giv tak put kn tg : Int32} {part reg c m vm mm vi mi vo mo kp : Nat → Int32} {N : Nat} (hN : N < 100) (hL : mF_StepMachineModel_latest kn = nI (13 * N)) (h8 : kp (13 * N + 8) = 0) (h10 : kp (13 * N + 10) = -1) (hr0 : reg 0 = 0) (hm : Rm c m) (ho : Rb vo mo) (hi : Rb vi mi) (hk : Rk vm mm) (hpc : pc &&& 1 = 0) (hn : n = 2 ∨ n = 4) (hp : ∀ p, p < 3 → 0 ≤ (part p).toInt ∧ (part p).toInt < 32) (hg : 0 ≤ giv.toInt ∧ giv.toInt ≤ 1000) (ht : 0 ≤ tak.toInt) (hu : 0 ≤ put.toInt ∧ put.toInt ≤ 2000) : PWk 34 (part 0) (cF_Core_address reg (part 1) (part 3)) reg c m kp N (cF_Core_perform pc 0 0 va sp reg n 34 (part 0) (part 1) (part 2) (part 3) on vm c giv tak put vi vo) (mF_StepMachineModel_work on pc giv tak put 0 0 va sp kn n 34 tg part m mm reg mi mo kp) := by
  have e1 : cF_Core_perform pc 0 0 va sp reg n 34 (part 0) (part 1) (part 2) (part 3) on vm c giv tak put vi vo = ((cF_Core_putRegister reg (part 0) (cF_Arithmetic_result 34 (cF_Core_register reg (part 1)) (cF_Core_register reg (part 2)))).2, c, pc + n, 0, 0, va, vo, put, tak) := rfl
  have e2 : mF_StepMachineModel_work on pc giv tak put 0 0 va sp kn n 34 tg part m mm reg mi mo kp = ((mF_StepMachineModel_become kn reg kp (part 0) (mF_StepMachineModel_reckoned 34 (reg (part 1).toNatClampNeg) (reg (part 2).toNatClampNeg))).1, (mF_StepMachineModel_become kn reg kp (part 0) (mF_StepMachineModel_reckoned 34 (reg (part 1).toNatClampNeg) (reg (part 2).toNatClampNeg))).2, mo, put, tak, va, 0, 0, m, pc + n, tg, 0) := rfl
  rw [reg_of hr0 (hp 1 (by decide)), reg_of hr0 (hp 2 (by decide)), res_alike (by decide) (by decide)] at e1
  rw [e1, e2]
  exact pw_reg hN hL h8 h10 hr0 hm ho (k := 34) (d := part 0) (hp 0 (by decide)) (ev_add hpc (ev_n hn)) ht hu (by decide)
theorem pw_35 {pc va sp n on giv tak put kn tg : Int32} {part reg c m vm mm vi mi vo mo kp : Nat → Int32} {N : Nat} (hN : N < 100) (hL : mF_StepMachineModel_latest kn = nI (13 * N)) (h8 : kp (13 * N + 8) = 0) (h10 : kp (13 * N + 10) = -1) (hr0 : reg 0 = 0) (hm : Rm c m) (ho : Rb vo mo) (hi : Rb vi mi) (hk : Rk vm mm) (hpc : pc &&& 1 = 0) (hn : n = 2 ∨ n = 4) (hp : ∀ p, p < 3 → 0 ≤ (part p).toInt ∧ (part p).toInt < 32) (hg : 0 ≤ giv.toInt ∧ giv.toInt ≤ 1000) (ht : 0 ≤ tak.toInt) (hu : 0 ≤ put.toInt ∧ put.toInt ≤ 2000) : PWk 35 (part 0) (cF_Core_address reg (part 1) (part 3)) reg c m kp N (cF_Core_perform pc 0 0 va sp reg n 35 (part 0) (part 1) (part 2) (part 3) on vm c giv tak put vi vo) (mF_StepMachineModel_work on pc giv tak put 0 0 va sp kn n 35 tg part m mm reg mi mo kp) := by
  have e1 : cF_Core_perform pc 0 0 va sp reg n 35 (part 0) (part 1) (part 2) (part 3) on vm c giv tak put vi vo = ((cF_Core_putRegister reg (part 0) (cF_Arithmetic_result 35 (cF_Core_register reg (part 1)) (cF_Core_register reg (part 2)))).2, c, pc + n, 0, 0, va, vo, put, tak) := rfl
  have e2 : mF_StepMachineModel_work on pc giv tak put 0 0 va sp kn n 35 tg part m mm reg mi mo kp = ((mF_StepMachineModel_become kn reg kp (part 0) (mF_StepMachineModel_reckoned 35 (reg (part 1).toNatClampNeg) (reg (part 2).toNatClampNeg))).1, (mF_StepMachineModel_become kn reg kp (part 0) (mF_StepMachineModel_reckoned 35 (reg (part 1).toNatClampNeg) (reg (part 2).toNatClampNeg))).2, mo, put, tak, va, 0, 0, m, pc + n, tg, 0) := rfl
  rw [reg_of hr0 (hp 1 (by decide)), reg_of hr0 (hp 2 (by decide)), res_alike (by decide) (by decide)] at e1
  rw [e1, e2]
  exact pw_reg hN hL h8 h10 hr0 hm ho (k := 35) (d := part 0) (hp 0 (by decide)) (ev_add hpc (ev_n hn)) ht hu (by decide)
theorem pw_36 {pc va sp n on giv tak put kn tg : Int32} {part reg c m vm mm vi mi vo mo kp : Nat → Int32} {N : Nat} (hN : N < 100) (hL : mF_StepMachineModel_latest kn = nI (13 * N)) (h8 : kp (13 * N + 8) = 0) (h10 : kp (13 * N + 10) = -1) (hr0 : reg 0 = 0) (hm : Rm c m) (ho : Rb vo mo) (hi : Rb vi mi) (hk : Rk vm mm) (hpc : pc &&& 1 = 0) (hn : n = 2 ∨ n = 4) (hp : ∀ p, p < 3 → 0 ≤ (part p).toInt ∧ (part p).toInt < 32) (hg : 0 ≤ giv.toInt ∧ giv.toInt ≤ 1000) (ht : 0 ≤ tak.toInt) (hu : 0 ≤ put.toInt ∧ put.toInt ≤ 2000) : PWk 36 (part 0) (cF_Core_address reg (part 1) (part 3)) reg c m kp N (cF_Core_perform pc 0 0 va sp reg n 36 (part 0) (part 1) (part 2) (part 3) on vm c giv tak put vi vo) (mF_StepMachineModel_work on pc giv tak put 0 0 va sp kn n 36 tg part m mm reg mi mo kp) := by
  have e1 : cF_Core_perform pc 0 0 va sp reg n 36 (part 0) (part 1) (part 2) (part 3) on vm c giv tak put vi vo = ((cF_Core_putRegister reg (part 0) (cF_Arithmetic_result 36 (cF_Core_register reg (part 1)) (cF_Core_register reg (part 2)))).2, c, pc + n, 0, 0, va, vo, put, tak) := rfl
  have e2 : mF_StepMachineModel_work on pc giv tak put 0 0 va sp kn n 36 tg part m mm reg mi mo kp = ((mF_StepMachineModel_become kn reg kp (part 0) (mF_StepMachineModel_reckoned 36 (reg (part 1).toNatClampNeg) (reg (part 2).toNatClampNeg))).1, (mF_StepMachineModel_become kn reg kp (part 0) (mF_StepMachineModel_reckoned 36 (reg (part 1).toNatClampNeg) (reg (part 2).toNatClampNeg))).2, mo, put, tak, va, 0, 0, m, pc + n, tg, 0) := rfl
  rw [reg_of hr0 (hp 1 (by decide)), reg_of hr0 (hp 2 (by decide)), res_alike (by decide) (by decide)] at e1
  rw [e1, e2]
  exact pw_reg hN hL h8 h10 hr0 hm ho (k := 36) (d := part 0) (hp 0 (by decide)) (ev_add hpc (ev_n hn)) ht hu (by decide)
theorem pw_37 {pc va sp n on giv tak put kn tg : Int32} {part reg c m vm mm vi mi vo mo kp : Nat → Int32} {N : Nat} (hN : N < 100) (hL : mF_StepMachineModel_latest kn = nI (13 * N)) (h8 : kp (13 * N + 8) = 0) (h10 : kp (13 * N + 10) = -1) (hr0 : reg 0 = 0) (hm : Rm c m) (ho : Rb vo mo) (hi : Rb vi mi) (hk : Rk vm mm) (hpc : pc &&& 1 = 0) (hn : n = 2 ∨ n = 4) (hp : ∀ p, p < 3 → 0 ≤ (part p).toInt ∧ (part p).toInt < 32) (hg : 0 ≤ giv.toInt ∧ giv.toInt ≤ 1000) (ht : 0 ≤ tak.toInt) (hu : 0 ≤ put.toInt ∧ put.toInt ≤ 2000) : PWk 37 (part 0) (cF_Core_address reg (part 1) (part 3)) reg c m kp N (cF_Core_perform pc 0 0 va sp reg n 37 (part 0) (part 1) (part 2) (part 3) on vm c giv tak put vi vo) (mF_StepMachineModel_work on pc giv tak put 0 0 va sp kn n 37 tg part m mm reg mi mo kp) := by
  have e1 : cF_Core_perform pc 0 0 va sp reg n 37 (part 0) (part 1) (part 2) (part 3) on vm c giv tak put vi vo = ((cF_Core_putRegister reg (part 0) (cF_Arithmetic_result 37 (cF_Core_register reg (part 1)) (cF_Core_register reg (part 2)))).2, c, pc + n, 0, 0, va, vo, put, tak) := rfl
  have e2 : mF_StepMachineModel_work on pc giv tak put 0 0 va sp kn n 37 tg part m mm reg mi mo kp = ((mF_StepMachineModel_become kn reg kp (part 0) (mF_StepMachineModel_reckoned 37 (reg (part 1).toNatClampNeg) (reg (part 2).toNatClampNeg))).1, (mF_StepMachineModel_become kn reg kp (part 0) (mF_StepMachineModel_reckoned 37 (reg (part 1).toNatClampNeg) (reg (part 2).toNatClampNeg))).2, mo, put, tak, va, 0, 0, m, pc + n, tg, 0) := rfl
  rw [reg_of hr0 (hp 1 (by decide)), reg_of hr0 (hp 2 (by decide)), res_alike (by decide) (by decide)] at e1
  rw [e1, e2]
  exact pw_reg hN hL h8 h10 hr0 hm ho (k := 37) (d := part 0) (hp 0 (by decide)) (ev_add hpc (ev_n hn)) ht hu (by decide)
theorem pw_38 {pc va sp n on giv tak put kn tg : Int32} {part reg c m vm mm vi mi vo mo kp : Nat → Int32} {N : Nat} (hN : N < 100) (hL : mF_StepMachineModel_latest kn = nI (13 * N)) (h8 : kp (13 * N + 8) = 0) (h10 : kp (13 * N + 10) = -1) (hr0 : reg 0 = 0) (hm : Rm c m) (ho : Rb vo mo) (hi : Rb vi mi) (hk : Rk vm mm) (hpc : pc &&& 1 = 0) (hn : n = 2 ∨ n = 4) (hp : ∀ p, p < 3 → 0 ≤ (part p).toInt ∧ (part p).toInt < 32) (hg : 0 ≤ giv.toInt ∧ giv.toInt ≤ 1000) (ht : 0 ≤ tak.toInt) (hu : 0 ≤ put.toInt ∧ put.toInt ≤ 2000) : PWk 38 (part 0) (cF_Core_address reg (part 1) (part 3)) reg c m kp N (cF_Core_perform pc 0 0 va sp reg n 38 (part 0) (part 1) (part 2) (part 3) on vm c giv tak put vi vo) (mF_StepMachineModel_work on pc giv tak put 0 0 va sp kn n 38 tg part m mm reg mi mo kp) := by
  have e1 : cF_Core_perform pc 0 0 va sp reg n 38 (part 0) (part 1) (part 2) (part 3) on vm c giv tak put vi vo = ((cF_Core_putRegister reg (part 0) (cF_Arithmetic_result 38 (cF_Core_register reg (part 1)) (cF_Core_register reg (part 2)))).2, c, pc + n, 0, 0, va, vo, put, tak) := rfl
  have e2 : mF_StepMachineModel_work on pc giv tak put 0 0 va sp kn n 38 tg part m mm reg mi mo kp = ((mF_StepMachineModel_become kn reg kp (part 0) (mF_StepMachineModel_reckoned 38 (reg (part 1).toNatClampNeg) (reg (part 2).toNatClampNeg))).1, (mF_StepMachineModel_become kn reg kp (part 0) (mF_StepMachineModel_reckoned 38 (reg (part 1).toNatClampNeg) (reg (part 2).toNatClampNeg))).2, mo, put, tak, va, 0, 0, m, pc + n, tg, 0) := rfl
  rw [reg_of hr0 (hp 1 (by decide)), reg_of hr0 (hp 2 (by decide)), res_alike (by decide) (by decide)] at e1
  rw [e1, e2]
  exact pw_reg hN hL h8 h10 hr0 hm ho (k := 38) (d := part 0) (hp 0 (by decide)) (ev_add hpc (ev_n hn)) ht hu (by decide)
theorem pw_39 {pc va sp n on giv tak put kn tg : Int32} {part reg c m vm mm vi mi vo mo kp : Nat → Int32} {N : Nat} (hN : N < 100) (hL : mF_StepMachineModel_latest kn = nI (13 * N)) (h8 : kp (13 * N + 8) = 0) (h10 : kp (13 * N + 10) = -1) (hr0 : reg 0 = 0) (hm : Rm c m) (ho : Rb vo mo) (hi : Rb vi mi) (hk : Rk vm mm) (hpc : pc &&& 1 = 0) (hn : n = 2 ∨ n = 4) (hp : ∀ p, p < 3 → 0 ≤ (part p).toInt ∧ (part p).toInt < 32) (hg : 0 ≤ giv.toInt ∧ giv.toInt ≤ 1000) (ht : 0 ≤ tak.toInt) (hu : 0 ≤ put.toInt ∧ put.toInt ≤ 2000) : PWk 39 (part 0) (cF_Core_address reg (part 1) (part 3)) reg c m kp N (cF_Core_perform pc 0 0 va sp reg n 39 (part 0) (part 1) (part 2) (part 3) on vm c giv tak put vi vo) (mF_StepMachineModel_work on pc giv tak put 0 0 va sp kn n 39 tg part m mm reg mi mo kp) := by
  have e1 : cF_Core_perform pc 0 0 va sp reg n 39 (part 0) (part 1) (part 2) (part 3) on vm c giv tak put vi vo = ((cF_Core_putRegister reg (part 0) (cF_Arithmetic_result 39 (cF_Core_register reg (part 1)) (cF_Core_register reg (part 2)))).2, c, pc + n, 0, 0, va, vo, put, tak) := rfl
  have e2 : mF_StepMachineModel_work on pc giv tak put 0 0 va sp kn n 39 tg part m mm reg mi mo kp = ((mF_StepMachineModel_become kn reg kp (part 0) (mF_StepMachineModel_reckoned 39 (reg (part 1).toNatClampNeg) (reg (part 2).toNatClampNeg))).1, (mF_StepMachineModel_become kn reg kp (part 0) (mF_StepMachineModel_reckoned 39 (reg (part 1).toNatClampNeg) (reg (part 2).toNatClampNeg))).2, mo, put, tak, va, 0, 0, m, pc + n, tg, 0) := rfl
  rw [reg_of hr0 (hp 1 (by decide)), reg_of hr0 (hp 2 (by decide)), res_alike (by decide) (by decide)] at e1
  rw [e1, e2]
  exact pw_reg hN hL h8 h10 hr0 hm ho (k := 39) (d := part 0) (hp 0 (by decide)) (ev_add hpc (ev_n hn)) ht hu (by decide)
theorem pw_40 {pc va sp n on giv tak put kn tg : Int32} {part reg c m vm mm vi mi vo mo kp : Nat → Int32} {N : Nat} (hN : N < 100) (hL : mF_StepMachineModel_latest kn = nI (13 * N)) (h8 : kp (13 * N + 8) = 0) (h10 : kp (13 * N + 10) = -1) (hr0 : reg 0 = 0) (hm : Rm c m) (ho : Rb vo mo) (hi : Rb vi mi) (hk : Rk vm mm) (hpc : pc &&& 1 = 0) (hn : n = 2 ∨ n = 4) (hp : ∀ p, p < 3 → 0 ≤ (part p).toInt ∧ (part p).toInt < 32) (hg : 0 ≤ giv.toInt ∧ giv.toInt ≤ 1000) (ht : 0 ≤ tak.toInt) (hu : 0 ≤ put.toInt ∧ put.toInt ≤ 2000) : PWk 40 (part 0) (cF_Core_address reg (part 1) (part 3)) reg c m kp N (cF_Core_perform pc 0 0 va sp reg n 40 (part 0) (part 1) (part 2) (part 3) on vm c giv tak put vi vo) (mF_StepMachineModel_work on pc giv tak put 0 0 va sp kn n 40 tg part m mm reg mi mo kp) := by
  have e1 : cF_Core_perform pc 0 0 va sp reg n 40 (part 0) (part 1) (part 2) (part 3) on vm c giv tak put vi vo = ((cF_Core_putRegister reg (part 0) (cF_Arithmetic_result 40 (cF_Core_register reg (part 1)) (cF_Core_register reg (part 2)))).2, c, pc + n, 0, 0, va, vo, put, tak) := rfl
  have e2 : mF_StepMachineModel_work on pc giv tak put 0 0 va sp kn n 40 tg part m mm reg mi mo kp = ((mF_StepMachineModel_become kn reg kp (part 0) (mF_StepMachineModel_reckoned 40 (reg (part 1).toNatClampNeg) (reg (part 2).toNatClampNeg))).1, (mF_StepMachineModel_become kn reg kp (part 0) (mF_StepMachineModel_reckoned 40 (reg (part 1).toNatClampNeg) (reg (part 2).toNatClampNeg))).2, mo, put, tak, va, 0, 0, m, pc + n, tg, 0) := rfl
  rw [reg_of hr0 (hp 1 (by decide)), reg_of hr0 (hp 2 (by decide)), res_alike (by decide) (by decide)] at e1
  rw [e1, e2]
  exact pw_reg hN hL h8 h10 hr0 hm ho (k := 40) (d := part 0) (hp 0 (by decide)) (ev_add hpc (ev_n hn)) ht hu (by decide)
theorem pw_41 {pc va sp n on giv tak put kn tg : Int32} {part reg c m vm mm vi mi vo mo kp : Nat → Int32} {N : Nat} (hN : N < 100) (hL : mF_StepMachineModel_latest kn = nI (13 * N)) (h8 : kp (13 * N + 8) = 0) (h10 : kp (13 * N + 10) = -1) (hr0 : reg 0 = 0) (hm : Rm c m) (ho : Rb vo mo) (hi : Rb vi mi) (hk : Rk vm mm) (hpc : pc &&& 1 = 0) (hn : n = 2 ∨ n = 4) (hp : ∀ p, p < 3 → 0 ≤ (part p).toInt ∧ (part p).toInt < 32) (hg : 0 ≤ giv.toInt ∧ giv.toInt ≤ 1000) (ht : 0 ≤ tak.toInt) (hu : 0 ≤ put.toInt ∧ put.toInt ≤ 2000) : PWk 41 (part 0) (cF_Core_address reg (part 1) (part 3)) reg c m kp N (cF_Core_perform pc 0 0 va sp reg n 41 (part 0) (part 1) (part 2) (part 3) on vm c giv tak put vi vo) (mF_StepMachineModel_work on pc giv tak put 0 0 va sp kn n 41 tg part m mm reg mi mo kp) := by
  have e1 : cF_Core_perform pc 0 0 va sp reg n 41 (part 0) (part 1) (part 2) (part 3) on vm c giv tak put vi vo = ((cF_Core_putRegister reg (part 0) (cF_Arithmetic_result 41 (cF_Core_register reg (part 1)) (cF_Core_register reg (part 2)))).2, c, pc + n, 0, 0, va, vo, put, tak) := rfl
  have e2 : mF_StepMachineModel_work on pc giv tak put 0 0 va sp kn n 41 tg part m mm reg mi mo kp = ((mF_StepMachineModel_become kn reg kp (part 0) (mF_StepMachineModel_reckoned 41 (reg (part 1).toNatClampNeg) (reg (part 2).toNatClampNeg))).1, (mF_StepMachineModel_become kn reg kp (part 0) (mF_StepMachineModel_reckoned 41 (reg (part 1).toNatClampNeg) (reg (part 2).toNatClampNeg))).2, mo, put, tak, va, 0, 0, m, pc + n, tg, 0) := rfl
  rw [reg_of hr0 (hp 1 (by decide)), reg_of hr0 (hp 2 (by decide)), res_alike (by decide) (by decide)] at e1
  rw [e1, e2]
  exact pw_reg hN hL h8 h10 hr0 hm ho (k := 41) (d := part 0) (hp 0 (by decide)) (ev_add hpc (ev_n hn)) ht hu (by decide)
theorem pw_42 {pc va sp n on giv tak put kn tg : Int32} {part reg c m vm mm vi mi vo mo kp : Nat → Int32} {N : Nat} (hN : N < 100) (hL : mF_StepMachineModel_latest kn = nI (13 * N)) (h8 : kp (13 * N + 8) = 0) (h10 : kp (13 * N + 10) = -1) (hr0 : reg 0 = 0) (hm : Rm c m) (ho : Rb vo mo) (hi : Rb vi mi) (hk : Rk vm mm) (hpc : pc &&& 1 = 0) (hn : n = 2 ∨ n = 4) (hp : ∀ p, p < 3 → 0 ≤ (part p).toInt ∧ (part p).toInt < 32) (hg : 0 ≤ giv.toInt ∧ giv.toInt ≤ 1000) (ht : 0 ≤ tak.toInt) (hu : 0 ≤ put.toInt ∧ put.toInt ≤ 2000) : PWk 42 (part 0) (cF_Core_address reg (part 1) (part 3)) reg c m kp N (cF_Core_perform pc 0 0 va sp reg n 42 (part 0) (part 1) (part 2) (part 3) on vm c giv tak put vi vo) (mF_StepMachineModel_work on pc giv tak put 0 0 va sp kn n 42 tg part m mm reg mi mo kp) := by
  have e1 : cF_Core_perform pc 0 0 va sp reg n 42 (part 0) (part 1) (part 2) (part 3) on vm c giv tak put vi vo = ((cF_Core_putRegister reg (part 0) (cF_Arithmetic_result 42 (cF_Core_register reg (part 1)) (cF_Core_register reg (part 2)))).2, c, pc + n, 0, 0, va, vo, put, tak) := rfl
  have e2 : mF_StepMachineModel_work on pc giv tak put 0 0 va sp kn n 42 tg part m mm reg mi mo kp = ((mF_StepMachineModel_become kn reg kp (part 0) (mF_StepMachineModel_reckoned 42 (reg (part 1).toNatClampNeg) (reg (part 2).toNatClampNeg))).1, (mF_StepMachineModel_become kn reg kp (part 0) (mF_StepMachineModel_reckoned 42 (reg (part 1).toNatClampNeg) (reg (part 2).toNatClampNeg))).2, mo, put, tak, va, 0, 0, m, pc + n, tg, 0) := rfl
  rw [reg_of hr0 (hp 1 (by decide)), reg_of hr0 (hp 2 (by decide)), res_alike (by decide) (by decide)] at e1
  rw [e1, e2]
  exact pw_reg hN hL h8 h10 hr0 hm ho (k := 42) (d := part 0) (hp 0 (by decide)) (ev_add hpc (ev_n hn)) ht hu (by decide)
theorem pw_43 {pc va sp n on giv tak put kn tg : Int32} {part reg c m vm mm vi mi vo mo kp : Nat → Int32} {N : Nat} (hN : N < 100) (hL : mF_StepMachineModel_latest kn = nI (13 * N)) (h8 : kp (13 * N + 8) = 0) (h10 : kp (13 * N + 10) = -1) (hr0 : reg 0 = 0) (hm : Rm c m) (ho : Rb vo mo) (hi : Rb vi mi) (hk : Rk vm mm) (hpc : pc &&& 1 = 0) (hn : n = 2 ∨ n = 4) (hp : ∀ p, p < 3 → 0 ≤ (part p).toInt ∧ (part p).toInt < 32) (hg : 0 ≤ giv.toInt ∧ giv.toInt ≤ 1000) (ht : 0 ≤ tak.toInt) (hu : 0 ≤ put.toInt ∧ put.toInt ≤ 2000) : PWk 43 (part 0) (cF_Core_address reg (part 1) (part 3)) reg c m kp N (cF_Core_perform pc 0 0 va sp reg n 43 (part 0) (part 1) (part 2) (part 3) on vm c giv tak put vi vo) (mF_StepMachineModel_work on pc giv tak put 0 0 va sp kn n 43 tg part m mm reg mi mo kp) := by
  have e1 : cF_Core_perform pc 0 0 va sp reg n 43 (part 0) (part 1) (part 2) (part 3) on vm c giv tak put vi vo = ((cF_Core_putRegister reg (part 0) (cF_Arithmetic_result 43 (cF_Core_register reg (part 1)) (cF_Core_register reg (part 2)))).2, c, pc + n, 0, 0, va, vo, put, tak) := rfl
  have e2 : mF_StepMachineModel_work on pc giv tak put 0 0 va sp kn n 43 tg part m mm reg mi mo kp = ((mF_StepMachineModel_become kn reg kp (part 0) (mF_StepMachineModel_reckoned 43 (reg (part 1).toNatClampNeg) (reg (part 2).toNatClampNeg))).1, (mF_StepMachineModel_become kn reg kp (part 0) (mF_StepMachineModel_reckoned 43 (reg (part 1).toNatClampNeg) (reg (part 2).toNatClampNeg))).2, mo, put, tak, va, 0, 0, m, pc + n, tg, 0) := rfl
  rw [reg_of hr0 (hp 1 (by decide)), reg_of hr0 (hp 2 (by decide)), res_alike (by decide) (by decide)] at e1
  rw [e1, e2]
  exact pw_reg hN hL h8 h10 hr0 hm ho (k := 43) (d := part 0) (hp 0 (by decide)) (ev_add hpc (ev_n hn)) ht hu (by decide)
theorem pw_44 {pc va sp n on giv tak put kn tg : Int32} {part reg c m vm mm vi mi vo mo kp : Nat → Int32} {N : Nat} (hN : N < 100) (hL : mF_StepMachineModel_latest kn = nI (13 * N)) (h8 : kp (13 * N + 8) = 0) (h10 : kp (13 * N + 10) = -1) (hr0 : reg 0 = 0) (hm : Rm c m) (ho : Rb vo mo) (hi : Rb vi mi) (hk : Rk vm mm) (hpc : pc &&& 1 = 0) (hn : n = 2 ∨ n = 4) (hp : ∀ p, p < 3 → 0 ≤ (part p).toInt ∧ (part p).toInt < 32) (hg : 0 ≤ giv.toInt ∧ giv.toInt ≤ 1000) (ht : 0 ≤ tak.toInt) (hu : 0 ≤ put.toInt ∧ put.toInt ≤ 2000) : PWk 44 (part 0) (cF_Core_address reg (part 1) (part 3)) reg c m kp N (cF_Core_perform pc 0 0 va sp reg n 44 (part 0) (part 1) (part 2) (part 3) on vm c giv tak put vi vo) (mF_StepMachineModel_work on pc giv tak put 0 0 va sp kn n 44 tg part m mm reg mi mo kp) := by
  have e1 : cF_Core_perform pc 0 0 va sp reg n 44 (part 0) (part 1) (part 2) (part 3) on vm c giv tak put vi vo = ((cF_Core_putRegister reg (part 0) (cF_Arithmetic_result 44 (cF_Core_register reg (part 1)) (cF_Core_register reg (part 2)))).2, c, pc + n, 0, 0, va, vo, put, tak) := rfl
  have e2 : mF_StepMachineModel_work on pc giv tak put 0 0 va sp kn n 44 tg part m mm reg mi mo kp = ((mF_StepMachineModel_become kn reg kp (part 0) (mF_StepMachineModel_reckoned 44 (reg (part 1).toNatClampNeg) (reg (part 2).toNatClampNeg))).1, (mF_StepMachineModel_become kn reg kp (part 0) (mF_StepMachineModel_reckoned 44 (reg (part 1).toNatClampNeg) (reg (part 2).toNatClampNeg))).2, mo, put, tak, va, 0, 0, m, pc + n, tg, 0) := rfl
  rw [reg_of hr0 (hp 1 (by decide)), reg_of hr0 (hp 2 (by decide)), res_alike (by decide) (by decide)] at e1
  rw [e1, e2]
  exact pw_reg hN hL h8 h10 hr0 hm ho (k := 44) (d := part 0) (hp 0 (by decide)) (ev_add hpc (ev_n hn)) ht hu (by decide)
theorem pw_10 {pc va sp n on giv tak put kn tg : Int32} {part reg c m vm mm vi mi vo mo kp : Nat → Int32} {N : Nat} (hN : N < 100) (hL : mF_StepMachineModel_latest kn = nI (13 * N)) (h8 : kp (13 * N + 8) = 0) (h10 : kp (13 * N + 10) = -1) (hr0 : reg 0 = 0) (hm : Rm c m) (ho : Rb vo mo) (hi : Rb vi mi) (hk : Rk vm mm) (hpc : pc &&& 1 = 0) (hn : n = 2 ∨ n = 4) (hp : ∀ p, p < 3 → 0 ≤ (part p).toInt ∧ (part p).toInt < 32) (hg : 0 ≤ giv.toInt ∧ giv.toInt ≤ 1000) (ht : 0 ≤ tak.toInt) (hu : 0 ≤ put.toInt ∧ put.toInt ≤ 2000) {a : Nat} (hx : (reg (part 1).toNatClampNeg + part 3) = nI a) (ha : a + 1 ≤ 131072) : PWk 10 (part 0) (cF_Core_address reg (part 1) (part 3)) reg c m kp N (cF_Core_perform pc 0 0 va sp reg n 10 (part 0) (part 1) (part 2) (part 3) on vm c giv tak put vi vo) (mF_StepMachineModel_work on pc giv tak put 0 0 va sp kn n 10 tg part m mm reg mi mo kp) := by
  have e1 : cF_Core_perform pc 0 0 va sp reg n 10 (part 0) (part 1) (part 2) (part 3) on vm c giv tak put vi vo = ((cF_Core_putRegister reg (part 0) (((cF_Memory_number c (cF_Core_address reg (part 1) (part 3)) 1) <<< ((24 : Int32) &&& 31)) >>> ((24 : Int32) &&& 31))).2, c, pc + n, 0, 0, va, vo, put, tak) := rfl
  have e2 : mF_StepMachineModel_work on pc giv tak put 0 0 va sp kn n 10 tg part m mm reg mi mo kp = ((mF_StepMachineModel_become kn reg kp (part 0) (((mF_StepMachineModel_fetched m (reg (part 1).toNatClampNeg + part 3) 1) <<< ((24 : Int32) &&& 31)) >>> ((24 : Int32) &&& 31))).1, (mF_StepMachineModel_become kn reg kp (part 0) (((mF_StepMachineModel_fetched m (reg (part 1).toNatClampNeg + part 3) 1) <<< ((24 : Int32) &&& 31)) >>> ((24 : Int32) &&& 31))).2, mo, put, tak, va, 0, 0, m, pc + n, tg, 0) := rfl
  rw [show cF_Core_address reg (part 1) (part 3) = nI a from by rw [cF_Core_address, reg_of hr0 (hp 1 (by decide)), hx], num_1 hm ha] at e1
  rw [hx] at e2
  rw [e1, e2]
  exact pw_reg hN hL h8 h10 hr0 hm ho (k := 10) (d := part 0) (hp 0 (by decide)) (ev_add hpc (ev_n hn)) ht hu (by decide)
theorem pw_11 {pc va sp n on giv tak put kn tg : Int32} {part reg c m vm mm vi mi vo mo kp : Nat → Int32} {N : Nat} (hN : N < 100) (hL : mF_StepMachineModel_latest kn = nI (13 * N)) (h8 : kp (13 * N + 8) = 0) (h10 : kp (13 * N + 10) = -1) (hr0 : reg 0 = 0) (hm : Rm c m) (ho : Rb vo mo) (hi : Rb vi mi) (hk : Rk vm mm) (hpc : pc &&& 1 = 0) (hn : n = 2 ∨ n = 4) (hp : ∀ p, p < 3 → 0 ≤ (part p).toInt ∧ (part p).toInt < 32) (hg : 0 ≤ giv.toInt ∧ giv.toInt ≤ 1000) (ht : 0 ≤ tak.toInt) (hu : 0 ≤ put.toInt ∧ put.toInt ≤ 2000) {a : Nat} (hx : (reg (part 1).toNatClampNeg + part 3) = nI a) (ha : a + 2 ≤ 131072) (hal : a % 2 = 0) : PWk 11 (part 0) (cF_Core_address reg (part 1) (part 3)) reg c m kp N (cF_Core_perform pc 0 0 va sp reg n 11 (part 0) (part 1) (part 2) (part 3) on vm c giv tak put vi vo) (mF_StepMachineModel_work on pc giv tak put 0 0 va sp kn n 11 tg part m mm reg mi mo kp) := by
  have e1 : cF_Core_perform pc 0 0 va sp reg n 11 (part 0) (part 1) (part 2) (part 3) on vm c giv tak put vi vo = ((cF_Core_putRegister reg (part 0) (((cF_Memory_number c (cF_Core_address reg (part 1) (part 3)) 2) <<< ((16 : Int32) &&& 31)) >>> ((16 : Int32) &&& 31))).2, c, pc + n, 0, 0, va, vo, put, tak) := rfl
  have e2 : mF_StepMachineModel_work on pc giv tak put 0 0 va sp kn n 11 tg part m mm reg mi mo kp = ((mF_StepMachineModel_become kn reg kp (part 0) (((mF_StepMachineModel_fetched m (reg (part 1).toNatClampNeg + part 3) 2) <<< ((16 : Int32) &&& 31)) >>> ((16 : Int32) &&& 31))).1, (mF_StepMachineModel_become kn reg kp (part 0) (((mF_StepMachineModel_fetched m (reg (part 1).toNatClampNeg + part 3) 2) <<< ((16 : Int32) &&& 31)) >>> ((16 : Int32) &&& 31))).2, mo, put, tak, va, 0, 0, m, pc + n, tg, 0) := rfl
  rw [show cF_Core_address reg (part 1) (part 3) = nI a from by rw [cF_Core_address, reg_of hr0 (hp 1 (by decide)), hx], num_2 hm ha hal] at e1
  rw [hx] at e2
  rw [e1, e2]
  exact pw_reg hN hL h8 h10 hr0 hm ho (k := 11) (d := part 0) (hp 0 (by decide)) (ev_add hpc (ev_n hn)) ht hu (by decide)
theorem pw_12 {pc va sp n on giv tak put kn tg : Int32} {part reg c m vm mm vi mi vo mo kp : Nat → Int32} {N : Nat} (hN : N < 100) (hL : mF_StepMachineModel_latest kn = nI (13 * N)) (h8 : kp (13 * N + 8) = 0) (h10 : kp (13 * N + 10) = -1) (hr0 : reg 0 = 0) (hm : Rm c m) (ho : Rb vo mo) (hi : Rb vi mi) (hk : Rk vm mm) (hpc : pc &&& 1 = 0) (hn : n = 2 ∨ n = 4) (hp : ∀ p, p < 3 → 0 ≤ (part p).toInt ∧ (part p).toInt < 32) (hg : 0 ≤ giv.toInt ∧ giv.toInt ≤ 1000) (ht : 0 ≤ tak.toInt) (hu : 0 ≤ put.toInt ∧ put.toInt ≤ 2000) {a : Nat} (hx : (reg (part 1).toNatClampNeg + part 3) = nI a) (ha : a + 4 ≤ 131072) (hal : a % 4 = 0) : PWk 12 (part 0) (cF_Core_address reg (part 1) (part 3)) reg c m kp N (cF_Core_perform pc 0 0 va sp reg n 12 (part 0) (part 1) (part 2) (part 3) on vm c giv tak put vi vo) (mF_StepMachineModel_work on pc giv tak put 0 0 va sp kn n 12 tg part m mm reg mi mo kp) := by
  have e1 : cF_Core_perform pc 0 0 va sp reg n 12 (part 0) (part 1) (part 2) (part 3) on vm c giv tak put vi vo = ((cF_Core_putRegister reg (part 0) (cF_Memory_number c (cF_Core_address reg (part 1) (part 3)) 4)).2, c, pc + n, 0, 0, va, vo, put, tak) := rfl
  have e2 : mF_StepMachineModel_work on pc giv tak put 0 0 va sp kn n 12 tg part m mm reg mi mo kp = ((mF_StepMachineModel_become kn reg kp (part 0) (mF_StepMachineModel_fetched m (reg (part 1).toNatClampNeg + part 3) 4)).1, (mF_StepMachineModel_become kn reg kp (part 0) (mF_StepMachineModel_fetched m (reg (part 1).toNatClampNeg + part 3) 4)).2, mo, put, tak, va, 0, 0, m, pc + n, tg, 0) := rfl
  rw [show cF_Core_address reg (part 1) (part 3) = nI a from by rw [cF_Core_address, reg_of hr0 (hp 1 (by decide)), hx], num_4 hm ha hal] at e1
  rw [hx] at e2
  rw [e1, e2]
  exact pw_reg hN hL h8 h10 hr0 hm ho (k := 12) (d := part 0) (hp 0 (by decide)) (ev_add hpc (ev_n hn)) ht hu (by decide)
theorem pw_13 {pc va sp n on giv tak put kn tg : Int32} {part reg c m vm mm vi mi vo mo kp : Nat → Int32} {N : Nat} (hN : N < 100) (hL : mF_StepMachineModel_latest kn = nI (13 * N)) (h8 : kp (13 * N + 8) = 0) (h10 : kp (13 * N + 10) = -1) (hr0 : reg 0 = 0) (hm : Rm c m) (ho : Rb vo mo) (hi : Rb vi mi) (hk : Rk vm mm) (hpc : pc &&& 1 = 0) (hn : n = 2 ∨ n = 4) (hp : ∀ p, p < 3 → 0 ≤ (part p).toInt ∧ (part p).toInt < 32) (hg : 0 ≤ giv.toInt ∧ giv.toInt ≤ 1000) (ht : 0 ≤ tak.toInt) (hu : 0 ≤ put.toInt ∧ put.toInt ≤ 2000) {a : Nat} (hx : (reg (part 1).toNatClampNeg + part 3) = nI a) (ha : a + 1 ≤ 131072) : PWk 13 (part 0) (cF_Core_address reg (part 1) (part 3)) reg c m kp N (cF_Core_perform pc 0 0 va sp reg n 13 (part 0) (part 1) (part 2) (part 3) on vm c giv tak put vi vo) (mF_StepMachineModel_work on pc giv tak put 0 0 va sp kn n 13 tg part m mm reg mi mo kp) := by
  have e1 : cF_Core_perform pc 0 0 va sp reg n 13 (part 0) (part 1) (part 2) (part 3) on vm c giv tak put vi vo = ((cF_Core_putRegister reg (part 0) (cF_Memory_number c (cF_Core_address reg (part 1) (part 3)) 1)).2, c, pc + n, 0, 0, va, vo, put, tak) := rfl
  have e2 : mF_StepMachineModel_work on pc giv tak put 0 0 va sp kn n 13 tg part m mm reg mi mo kp = ((mF_StepMachineModel_become kn reg kp (part 0) (mF_StepMachineModel_fetched m (reg (part 1).toNatClampNeg + part 3) 1)).1, (mF_StepMachineModel_become kn reg kp (part 0) (mF_StepMachineModel_fetched m (reg (part 1).toNatClampNeg + part 3) 1)).2, mo, put, tak, va, 0, 0, m, pc + n, tg, 0) := rfl
  rw [show cF_Core_address reg (part 1) (part 3) = nI a from by rw [cF_Core_address, reg_of hr0 (hp 1 (by decide)), hx], num_1 hm ha] at e1
  rw [hx] at e2
  rw [e1, e2]
  exact pw_reg hN hL h8 h10 hr0 hm ho (k := 13) (d := part 0) (hp 0 (by decide)) (ev_add hpc (ev_n hn)) ht hu (by decide)
theorem pw_14 {pc va sp n on giv tak put kn tg : Int32} {part reg c m vm mm vi mi vo mo kp : Nat → Int32} {N : Nat} (hN : N < 100) (hL : mF_StepMachineModel_latest kn = nI (13 * N)) (h8 : kp (13 * N + 8) = 0) (h10 : kp (13 * N + 10) = -1) (hr0 : reg 0 = 0) (hm : Rm c m) (ho : Rb vo mo) (hi : Rb vi mi) (hk : Rk vm mm) (hpc : pc &&& 1 = 0) (hn : n = 2 ∨ n = 4) (hp : ∀ p, p < 3 → 0 ≤ (part p).toInt ∧ (part p).toInt < 32) (hg : 0 ≤ giv.toInt ∧ giv.toInt ≤ 1000) (ht : 0 ≤ tak.toInt) (hu : 0 ≤ put.toInt ∧ put.toInt ≤ 2000) {a : Nat} (hx : (reg (part 1).toNatClampNeg + part 3) = nI a) (ha : a + 2 ≤ 131072) (hal : a % 2 = 0) : PWk 14 (part 0) (cF_Core_address reg (part 1) (part 3)) reg c m kp N (cF_Core_perform pc 0 0 va sp reg n 14 (part 0) (part 1) (part 2) (part 3) on vm c giv tak put vi vo) (mF_StepMachineModel_work on pc giv tak put 0 0 va sp kn n 14 tg part m mm reg mi mo kp) := by
  have e1 : cF_Core_perform pc 0 0 va sp reg n 14 (part 0) (part 1) (part 2) (part 3) on vm c giv tak put vi vo = ((cF_Core_putRegister reg (part 0) (cF_Memory_number c (cF_Core_address reg (part 1) (part 3)) 2)).2, c, pc + n, 0, 0, va, vo, put, tak) := rfl
  have e2 : mF_StepMachineModel_work on pc giv tak put 0 0 va sp kn n 14 tg part m mm reg mi mo kp = ((mF_StepMachineModel_become kn reg kp (part 0) (mF_StepMachineModel_fetched m (reg (part 1).toNatClampNeg + part 3) 2)).1, (mF_StepMachineModel_become kn reg kp (part 0) (mF_StepMachineModel_fetched m (reg (part 1).toNatClampNeg + part 3) 2)).2, mo, put, tak, va, 0, 0, m, pc + n, tg, 0) := rfl
  rw [show cF_Core_address reg (part 1) (part 3) = nI a from by rw [cF_Core_address, reg_of hr0 (hp 1 (by decide)), hx], num_2 hm ha hal] at e1
  rw [hx] at e2
  rw [e1, e2]
  exact pw_reg hN hL h8 h10 hr0 hm ho (k := 14) (d := part 0) (hp 0 (by decide)) (ev_add hpc (ev_n hn)) ht hu (by decide)
theorem pw_15 {pc va sp n on giv tak put kn tg : Int32} {part reg c m vm mm vi mi vo mo kp : Nat → Int32} {N : Nat} (hN : N < 100) (hL : mF_StepMachineModel_latest kn = nI (13 * N)) (h8 : kp (13 * N + 8) = 0) (h10 : kp (13 * N + 10) = -1) (hr0 : reg 0 = 0) (hm : Rm c m) (ho : Rb vo mo) (hi : Rb vi mi) (hk : Rk vm mm) (hpc : pc &&& 1 = 0) (hn : n = 2 ∨ n = 4) (hp : ∀ p, p < 3 → 0 ≤ (part p).toInt ∧ (part p).toInt < 32) (hg : 0 ≤ giv.toInt ∧ giv.toInt ≤ 1000) (ht : 0 ≤ tak.toInt) (hu : 0 ≤ put.toInt ∧ put.toInt ≤ 2000) {a : Nat} (hx : (reg (part 1).toNatClampNeg + part 3) = nI a) (ha : a + 1 ≤ 131072) : PWk 15 (part 0) (cF_Core_address reg (part 1) (part 3)) reg c m kp N (cF_Core_perform pc 0 0 va sp reg n 15 (part 0) (part 1) (part 2) (part 3) on vm c giv tak put vi vo) (mF_StepMachineModel_work on pc giv tak put 0 0 va sp kn n 15 tg part m mm reg mi mo kp) := by
  have ex : cF_Core_address reg (part 1) (part 3) = nI a := by rw [cF_Core_address, reg_of hr0 (hp 1 (by decide)), hx]
  have e1 : cF_Core_perform pc 0 0 va sp reg n 15 (part 0) (part 1) (part 2) (part 3) on vm c giv tak put vi vo = (reg, cF_Memory_putNumber c (cF_Core_address reg (part 1) (part 3)) 1 (cF_Core_register reg (part 2)), pc + n, 0, 0, va, vo, put, tak) := rfl
  have e2 : mF_StepMachineModel_work on pc giv tak put 0 0 va sp kn n 15 tg part m mm reg mi mo kp = (reg, (mF_StepMachineModel_store kn m kp (reg (part 1).toNatClampNeg + part 3) 1 (reg (part 2).toNatClampNeg)).2, mo, put, tak, va, 0, 0, (mF_StepMachineModel_store kn m kp (reg (part 1).toNatClampNeg + part 3) 1 (reg (part 2).toNatClampNeg)).1, pc + n, tg, 0) := rfl
  rw [e1, e2, ex, hx, reg_of hr0 (hp 2 (by decide))]
  exact pw_st1 hN hL h8 hr0 hm ho (k := 15) (d := part 0) (hp 0 (by decide)) (ev_add hpc (ev_n hn)) ht hu (by decide) ha
theorem pw_16 {pc va sp n on giv tak put kn tg : Int32} {part reg c m vm mm vi mi vo mo kp : Nat → Int32} {N : Nat} (hN : N < 100) (hL : mF_StepMachineModel_latest kn = nI (13 * N)) (h8 : kp (13 * N + 8) = 0) (h10 : kp (13 * N + 10) = -1) (hr0 : reg 0 = 0) (hm : Rm c m) (ho : Rb vo mo) (hi : Rb vi mi) (hk : Rk vm mm) (hpc : pc &&& 1 = 0) (hn : n = 2 ∨ n = 4) (hp : ∀ p, p < 3 → 0 ≤ (part p).toInt ∧ (part p).toInt < 32) (hg : 0 ≤ giv.toInt ∧ giv.toInt ≤ 1000) (ht : 0 ≤ tak.toInt) (hu : 0 ≤ put.toInt ∧ put.toInt ≤ 2000) {a : Nat} (hx : (reg (part 1).toNatClampNeg + part 3) = nI a) (ha : a + 2 ≤ 131072) (hal : a % 2 = 0) : PWk 16 (part 0) (cF_Core_address reg (part 1) (part 3)) reg c m kp N (cF_Core_perform pc 0 0 va sp reg n 16 (part 0) (part 1) (part 2) (part 3) on vm c giv tak put vi vo) (mF_StepMachineModel_work on pc giv tak put 0 0 va sp kn n 16 tg part m mm reg mi mo kp) := by
  have ex : cF_Core_address reg (part 1) (part 3) = nI a := by rw [cF_Core_address, reg_of hr0 (hp 1 (by decide)), hx]
  have e1 : cF_Core_perform pc 0 0 va sp reg n 16 (part 0) (part 1) (part 2) (part 3) on vm c giv tak put vi vo = (reg, cF_Memory_putNumber c (cF_Core_address reg (part 1) (part 3)) 2 (cF_Core_register reg (part 2)), pc + n, 0, 0, va, vo, put, tak) := rfl
  have e2 : mF_StepMachineModel_work on pc giv tak put 0 0 va sp kn n 16 tg part m mm reg mi mo kp = (reg, (mF_StepMachineModel_store kn m kp (reg (part 1).toNatClampNeg + part 3) 2 (reg (part 2).toNatClampNeg)).2, mo, put, tak, va, 0, 0, (mF_StepMachineModel_store kn m kp (reg (part 1).toNatClampNeg + part 3) 2 (reg (part 2).toNatClampNeg)).1, pc + n, tg, 0) := rfl
  rw [e1, e2, ex, hx, reg_of hr0 (hp 2 (by decide))]
  exact pw_st2 hN hL h8 hr0 hm ho (k := 16) (d := part 0) (hp 0 (by decide)) (ev_add hpc (ev_n hn)) ht hu (by decide) ha hal
theorem pw_17 {pc va sp n on giv tak put kn tg : Int32} {part reg c m vm mm vi mi vo mo kp : Nat → Int32} {N : Nat} (hN : N < 100) (hL : mF_StepMachineModel_latest kn = nI (13 * N)) (h8 : kp (13 * N + 8) = 0) (h10 : kp (13 * N + 10) = -1) (hr0 : reg 0 = 0) (hm : Rm c m) (ho : Rb vo mo) (hi : Rb vi mi) (hk : Rk vm mm) (hpc : pc &&& 1 = 0) (hn : n = 2 ∨ n = 4) (hp : ∀ p, p < 3 → 0 ≤ (part p).toInt ∧ (part p).toInt < 32) (hg : 0 ≤ giv.toInt ∧ giv.toInt ≤ 1000) (ht : 0 ≤ tak.toInt) (hu : 0 ≤ put.toInt ∧ put.toInt ≤ 2000) {a : Nat} (hx : (reg (part 1).toNatClampNeg + part 3) = nI a) (ha : a + 4 ≤ 131072) (hal : a % 4 = 0) : PWk 17 (part 0) (cF_Core_address reg (part 1) (part 3)) reg c m kp N (cF_Core_perform pc 0 0 va sp reg n 17 (part 0) (part 1) (part 2) (part 3) on vm c giv tak put vi vo) (mF_StepMachineModel_work on pc giv tak put 0 0 va sp kn n 17 tg part m mm reg mi mo kp) := by
  have ex : cF_Core_address reg (part 1) (part 3) = nI a := by rw [cF_Core_address, reg_of hr0 (hp 1 (by decide)), hx]
  have e1 : cF_Core_perform pc 0 0 va sp reg n 17 (part 0) (part 1) (part 2) (part 3) on vm c giv tak put vi vo = (reg, cF_Memory_putNumber c (cF_Core_address reg (part 1) (part 3)) 4 (cF_Core_register reg (part 2)), pc + n, 0, 0, va, vo, put, tak) := rfl
  have e2 : mF_StepMachineModel_work on pc giv tak put 0 0 va sp kn n 17 tg part m mm reg mi mo kp = (reg, (mF_StepMachineModel_store kn m kp (reg (part 1).toNatClampNeg + part 3) 4 (reg (part 2).toNatClampNeg)).2, mo, put, tak, va, 0, 0, (mF_StepMachineModel_store kn m kp (reg (part 1).toNatClampNeg + part 3) 4 (reg (part 2).toNatClampNeg)).1, pc + n, tg, 0) := rfl
  rw [e1, e2, ex, hx, reg_of hr0 (hp 2 (by decide))]
  exact pw_st4 hN hL h8 hr0 hm ho (k := 17) (d := part 0) (hp 0 (by decide)) (ev_add hpc (ev_n hn)) ht hu (by decide) ha hal
theorem pw_2 {pc va sp n on giv tak put kn tg : Int32} {part reg c m vm mm vi mi vo mo kp : Nat → Int32} {N : Nat} (hN : N < 100) (hL : mF_StepMachineModel_latest kn = nI (13 * N)) (h8 : kp (13 * N + 8) = 0) (h10 : kp (13 * N + 10) = -1) (hr0 : reg 0 = 0) (hm : Rm c m) (ho : Rb vo mo) (hi : Rb vi mi) (hk : Rk vm mm) (hpc : pc &&& 1 = 0) (hn : n = 2 ∨ n = 4) (hp : ∀ p, p < 3 → 0 ≤ (part p).toInt ∧ (part p).toInt < 32) (hg : 0 ≤ giv.toInt ∧ giv.toInt ≤ 1000) (ht : 0 ≤ tak.toInt) (hu : 0 ≤ put.toInt ∧ put.toInt ≤ 2000) (hev : part 3 &&& 1 = 0) : PWk 2 (part 0) (cF_Core_address reg (part 1) (part 3)) reg c m kp N (cF_Core_perform pc 0 0 va sp reg n 2 (part 0) (part 1) (part 2) (part 3) on vm c giv tak put vi vo) (mF_StepMachineModel_work on pc giv tak put 0 0 va sp kn n 2 tg part m mm reg mi mo kp) := by
  have e1 : cF_Core_perform pc 0 0 va sp reg n 2 (part 0) (part 1) (part 2) (part 3) on vm c giv tak put vi vo = ((cF_Core_putRegister reg (part 0) (pc + n)).2, c, (cF_Core_jump 0 0 on vm (pc + part 3)).1, (cF_Core_jump 0 0 on vm (pc + part 3)).2.1, (cF_Core_jump 0 0 on vm (pc + part 3)).2.2, va, vo, put, tak) := rfl
  have e2 : mF_StepMachineModel_work on pc giv tak put 0 0 va sp kn n 2 tg part m mm reg mi mo kp = (if on = 0 then ((mF_StepMachineModel_become kn reg kp (part 0) (pc + n)).1, (mF_StepMachineModel_become kn reg kp (part 0) (pc + n)).2, mo, put, tak, va, 0, 0, m, (pc + part 3), (pc + part 3), 1) else (if mF_StepMachineModel_isMarked mm (mF_StepMachineModel_bare (pc + part 3)) = 0 then ((mF_StepMachineModel_become kn reg kp (part 0) (pc + n)).1, (mF_StepMachineModel_become kn reg kp (part 0) (pc + n)).2, mo, put, tak, va, 5, (pc + part 3), m, (pc + part 3), (pc + part 3), 1) else ((mF_StepMachineModel_become kn reg kp (part 0) (pc + n)).1, (mF_StepMachineModel_become kn reg kp (part 0) (pc + n)).2, mo, put, tak, va, 0, 0, m, (pc + part 3), (pc + part 3), 1))) := rfl
  rw [e1, e2, cF_Core_jump, im_bare hk]
  by_cases h1 : on = 0
  · rw [if_pos h1, if_pos h1]
    exact pw_reg hN hL h8 h10 hr0 hm ho (k := 2) (d := part 0) (hp 0 (by decide)) (ev_add hpc hev) ht hu (by decide)
  · rw [if_neg h1, if_neg h1]
    by_cases h2 : mF_StepMachineModel_isMarked mm (mF_StepMachineModel_bare (pc + part 3)) = 0
    · rw [if_pos h2, if_pos h2]
      exact pw_reg hN hL h8 h10 hr0 hm ho (k := 2) (d := part 0) (hp 0 (by decide)) (ev_add hpc hev) ht hu (by decide)
    · rw [if_neg h2, if_neg h2]
      exact pw_reg hN hL h8 h10 hr0 hm ho (k := 2) (d := part 0) (hp 0 (by decide)) (ev_add hpc hev) ht hu (by decide)
theorem pw_3 {pc va sp n on giv tak put kn tg : Int32} {part reg c m vm mm vi mi vo mo kp : Nat → Int32} {N : Nat} (hN : N < 100) (hL : mF_StepMachineModel_latest kn = nI (13 * N)) (h8 : kp (13 * N + 8) = 0) (h10 : kp (13 * N + 10) = -1) (hr0 : reg 0 = 0) (hm : Rm c m) (ho : Rb vo mo) (hi : Rb vi mi) (hk : Rk vm mm) (hpc : pc &&& 1 = 0) (hn : n = 2 ∨ n = 4) (hp : ∀ p, p < 3 → 0 ≤ (part p).toInt ∧ (part p).toInt < 32) (hg : 0 ≤ giv.toInt ∧ giv.toInt ≤ 1000) (ht : 0 ≤ tak.toInt) (hu : 0 ≤ put.toInt ∧ put.toInt ≤ 2000) : PWk 3 (part 0) (cF_Core_address reg (part 1) (part 3)) reg c m kp N (cF_Core_perform pc 0 0 va sp reg n 3 (part 0) (part 1) (part 2) (part 3) on vm c giv tak put vi vo) (mF_StepMachineModel_work on pc giv tak put 0 0 va sp kn n 3 tg part m mm reg mi mo kp) := by
  have ex : (cF_Core_address reg (part 1) (part 3)) = (reg (part 1).toNatClampNeg + part 3) := by rw [cF_Core_address, reg_of hr0 (hp 1 (by decide))]
  have e1 : cF_Core_perform pc 0 0 va sp reg n 3 (part 0) (part 1) (part 2) (part 3) on vm c giv tak put vi vo = ((cF_Core_putRegister reg (part 0) (pc + n)).2, c, (cF_Core_jump 0 0 on vm ((cF_Core_address reg (part 1) (part 3)) &&& (-2))).1, (cF_Core_jump 0 0 on vm ((cF_Core_address reg (part 1) (part 3)) &&& (-2))).2.1, (cF_Core_jump 0 0 on vm ((cF_Core_address reg (part 1) (part 3)) &&& (-2))).2.2, va, vo, put, tak) := rfl
  have e2 : mF_StepMachineModel_work on pc giv tak put 0 0 va sp kn n 3 tg part m mm reg mi mo kp = (if on = 0 then ((mF_StepMachineModel_become kn reg kp (part 0) (pc + n)).1, (mF_StepMachineModel_become kn reg kp (part 0) (pc + n)).2, mo, put, tak, va, 0, 0, m, ((reg (part 1).toNatClampNeg + part 3) &&& (-2)), ((reg (part 1).toNatClampNeg + part 3) &&& (-2)), 1) else (if mF_StepMachineModel_isMarked mm (mF_StepMachineModel_bare ((reg (part 1).toNatClampNeg + part 3) &&& (-2))) = 0 then ((mF_StepMachineModel_become kn reg kp (part 0) (pc + n)).1, (mF_StepMachineModel_become kn reg kp (part 0) (pc + n)).2, mo, put, tak, va, 5, ((reg (part 1).toNatClampNeg + part 3) &&& (-2)), m, ((reg (part 1).toNatClampNeg + part 3) &&& (-2)), ((reg (part 1).toNatClampNeg + part 3) &&& (-2)), 1) else ((mF_StepMachineModel_become kn reg kp (part 0) (pc + n)).1, (mF_StepMachineModel_become kn reg kp (part 0) (pc + n)).2, mo, put, tak, va, 0, 0, m, ((reg (part 1).toNatClampNeg + part 3) &&& (-2)), ((reg (part 1).toNatClampNeg + part 3) &&& (-2)), 1))) := rfl
  rw [e1, e2, ex, cF_Core_jump, im_bare hk]
  by_cases h1 : on = 0
  · rw [if_pos h1, if_pos h1]
    exact pw_reg hN hL h8 h10 hr0 hm ho (k := 3) (d := part 0) (hp 0 (by decide)) (ev_m2 _) ht hu (by decide)
  · rw [if_neg h1, if_neg h1]
    by_cases h2 : mF_StepMachineModel_isMarked mm (mF_StepMachineModel_bare ((reg (part 1).toNatClampNeg + part 3) &&& (-2))) = 0
    · rw [if_pos h2, if_pos h2]
      exact pw_reg hN hL h8 h10 hr0 hm ho (k := 3) (d := part 0) (hp 0 (by decide)) (ev_m2 _) ht hu (by decide)
    · rw [if_neg h2, if_neg h2]
      exact pw_reg hN hL h8 h10 hr0 hm ho (k := 3) (d := part 0) (hp 0 (by decide)) (ev_m2 _) ht hu (by decide)
theorem pw_4 {pc va sp n on giv tak put kn tg : Int32} {part reg c m vm mm vi mi vo mo kp : Nat → Int32} {N : Nat} (hN : N < 100) (hL : mF_StepMachineModel_latest kn = nI (13 * N)) (h8 : kp (13 * N + 8) = 0) (h10 : kp (13 * N + 10) = -1) (hr0 : reg 0 = 0) (hm : Rm c m) (ho : Rb vo mo) (hi : Rb vi mi) (hk : Rk vm mm) (hpc : pc &&& 1 = 0) (hn : n = 2 ∨ n = 4) (hp : ∀ p, p < 3 → 0 ≤ (part p).toInt ∧ (part p).toInt < 32) (hg : 0 ≤ giv.toInt ∧ giv.toInt ≤ 1000) (ht : 0 ≤ tak.toInt) (hu : 0 ≤ put.toInt ∧ put.toInt ≤ 2000) (hev : part 3 &&& 1 = 0) : PWk 4 (part 0) (cF_Core_address reg (part 1) (part 3)) reg c m kp N (cF_Core_perform pc 0 0 va sp reg n 4 (part 0) (part 1) (part 2) (part 3) on vm c giv tak put vi vo) (mF_StepMachineModel_work on pc giv tak put 0 0 va sp kn n 4 tg part m mm reg mi mo kp) := by
  have e1 : cF_Core_perform pc 0 0 va sp reg n 4 (part 0) (part 1) (part 2) (part 3) on vm c giv tak put vi vo = (if cF_Arithmetic_holds 4 (cF_Core_register reg (part 1)) (cF_Core_register reg (part 2)) = 0 then (reg, c, pc + n, 0, 0, va, vo, put, tak) else (reg, c, (cF_Core_jump 0 0 on vm (pc + part 3)).1, (cF_Core_jump 0 0 on vm (pc + part 3)).2.1, (cF_Core_jump 0 0 on vm (pc + part 3)).2.2, va, vo, put, tak)) := by
    rw [cF_Core_perform, if_neg (show ¬ (4 : Int32) = 2 by decide), if_neg (show ¬ (4 : Int32) = 3 by decide), if_neg (show ¬ (4 : Int32) < 4 by decide), if_neg (show ¬ (9 : Int32) < 4 by decide), cF_Core_branch]
    by_cases h : cF_Arithmetic_holds 4 (cF_Core_register reg (part 1)) (cF_Core_register reg (part 2)) = 0
    · rw [if_pos h, if_pos h]; rfl
    · rw [if_neg h, if_neg h]; rfl
  have e2 : mF_StepMachineModel_work on pc giv tak put 0 0 va sp kn n 4 tg part m mm reg mi mo kp = (if (mF_StepMachineModel_branches 4 (reg (part 1).toNatClampNeg) (reg (part 2).toNatClampNeg)) = 0 then (reg, kp, mo, put, tak, va, 0, 0, m, (pc + n), (pc + part 3), (mF_StepMachineModel_branches 4 (reg (part 1).toNatClampNeg) (reg (part 2).toNatClampNeg))) else (if on = 0 then (reg, kp, mo, put, tak, va, 0, 0, m, (pc + part 3), (pc + part 3), (mF_StepMachineModel_branches 4 (reg (part 1).toNatClampNeg) (reg (part 2).toNatClampNeg))) else (if mF_StepMachineModel_isMarked mm (mF_StepMachineModel_bare (pc + part 3)) = 0 then (reg, kp, mo, put, tak, va, 5, (pc + part 3), m, (pc + part 3), (pc + part 3), (mF_StepMachineModel_branches 4 (reg (part 1).toNatClampNeg) (reg (part 2).toNatClampNeg))) else (reg, kp, mo, put, tak, va, 0, 0, m, (pc + part 3), (pc + part 3), (mF_StepMachineModel_branches 4 (reg (part 1).toNatClampNeg) (reg (part 2).toNatClampNeg)))))) := by
    rw [mF_StepMachineModel_work, if_neg (show ¬ (4 : Int32) = 0 by decide), if_neg (show ¬ (4 : Int32) = 1 by decide), if_neg (show ¬ (4 : Int32) = 2 by decide), if_neg (show ¬ (4 : Int32) = 3 by decide), if_neg (show ¬ (10 : Int32) ≤ 4 by decide), if_pos (show (0 : Int32) = 0 from rfl), mF_StepMachineModel_work_9, show (1 : Int32).toNatClampNeg = 1 from rfl, show (2 : Int32).toNatClampNeg = 2 from rfl, show (3 : Int32).toNatClampNeg = 3 from rfl]
    generalize (mF_StepMachineModel_branches 4 (reg (part 1).toNatClampNeg) (reg (part 2).toNatClampNeg)) = bb
    rfl
  rw [e1, e2, reg_of hr0 (hp 1 (by decide)), reg_of hr0 (hp 2 (by decide)), ho_alike, cF_Core_jump, im_bare hk]
  by_cases h0 : (mF_StepMachineModel_branches 4 (reg (part 1).toNatClampNeg) (reg (part 2).toNatClampNeg)) = 0
  · rw [if_pos h0, if_pos h0]
    exact pw_non hN h8 h10 hr0 hm ho (k := 4) (d := part 0) (hp 0 (by decide)) (ev_add hpc (ev_n hn)) ht hu (by decide)
  · rw [if_neg h0, if_neg h0]
    by_cases h1 : on = 0
    · rw [if_pos h1, if_pos h1]
      exact pw_non hN h8 h10 hr0 hm ho (k := 4) (d := part 0) (hp 0 (by decide)) (ev_add hpc hev) ht hu (by decide)
    · rw [if_neg h1, if_neg h1]
      by_cases h2 : mF_StepMachineModel_isMarked mm (mF_StepMachineModel_bare (pc + part 3)) = 0
      · rw [if_pos h2, if_pos h2]
        exact pw_non hN h8 h10 hr0 hm ho (k := 4) (d := part 0) (hp 0 (by decide)) (ev_add hpc hev) ht hu (by decide)
      · rw [if_neg h2, if_neg h2]
        exact pw_non hN h8 h10 hr0 hm ho (k := 4) (d := part 0) (hp 0 (by decide)) (ev_add hpc hev) ht hu (by decide)
theorem pw_5 {pc va sp n on giv tak put kn tg : Int32} {part reg c m vm mm vi mi vo mo kp : Nat → Int32} {N : Nat} (hN : N < 100) (hL : mF_StepMachineModel_latest kn = nI (13 * N)) (h8 : kp (13 * N + 8) = 0) (h10 : kp (13 * N + 10) = -1) (hr0 : reg 0 = 0) (hm : Rm c m) (ho : Rb vo mo) (hi : Rb vi mi) (hk : Rk vm mm) (hpc : pc &&& 1 = 0) (hn : n = 2 ∨ n = 4) (hp : ∀ p, p < 3 → 0 ≤ (part p).toInt ∧ (part p).toInt < 32) (hg : 0 ≤ giv.toInt ∧ giv.toInt ≤ 1000) (ht : 0 ≤ tak.toInt) (hu : 0 ≤ put.toInt ∧ put.toInt ≤ 2000) (hev : part 3 &&& 1 = 0) : PWk 5 (part 0) (cF_Core_address reg (part 1) (part 3)) reg c m kp N (cF_Core_perform pc 0 0 va sp reg n 5 (part 0) (part 1) (part 2) (part 3) on vm c giv tak put vi vo) (mF_StepMachineModel_work on pc giv tak put 0 0 va sp kn n 5 tg part m mm reg mi mo kp) := by
  have e1 : cF_Core_perform pc 0 0 va sp reg n 5 (part 0) (part 1) (part 2) (part 3) on vm c giv tak put vi vo = (if cF_Arithmetic_holds 5 (cF_Core_register reg (part 1)) (cF_Core_register reg (part 2)) = 0 then (reg, c, pc + n, 0, 0, va, vo, put, tak) else (reg, c, (cF_Core_jump 0 0 on vm (pc + part 3)).1, (cF_Core_jump 0 0 on vm (pc + part 3)).2.1, (cF_Core_jump 0 0 on vm (pc + part 3)).2.2, va, vo, put, tak)) := by
    rw [cF_Core_perform, if_neg (show ¬ (5 : Int32) = 2 by decide), if_neg (show ¬ (5 : Int32) = 3 by decide), if_neg (show ¬ (5 : Int32) < 4 by decide), if_neg (show ¬ (9 : Int32) < 5 by decide), cF_Core_branch]
    by_cases h : cF_Arithmetic_holds 5 (cF_Core_register reg (part 1)) (cF_Core_register reg (part 2)) = 0
    · rw [if_pos h, if_pos h]; rfl
    · rw [if_neg h, if_neg h]; rfl
  have e2 : mF_StepMachineModel_work on pc giv tak put 0 0 va sp kn n 5 tg part m mm reg mi mo kp = (if (mF_StepMachineModel_branches 5 (reg (part 1).toNatClampNeg) (reg (part 2).toNatClampNeg)) = 0 then (reg, kp, mo, put, tak, va, 0, 0, m, (pc + n), (pc + part 3), (mF_StepMachineModel_branches 5 (reg (part 1).toNatClampNeg) (reg (part 2).toNatClampNeg))) else (if on = 0 then (reg, kp, mo, put, tak, va, 0, 0, m, (pc + part 3), (pc + part 3), (mF_StepMachineModel_branches 5 (reg (part 1).toNatClampNeg) (reg (part 2).toNatClampNeg))) else (if mF_StepMachineModel_isMarked mm (mF_StepMachineModel_bare (pc + part 3)) = 0 then (reg, kp, mo, put, tak, va, 5, (pc + part 3), m, (pc + part 3), (pc + part 3), (mF_StepMachineModel_branches 5 (reg (part 1).toNatClampNeg) (reg (part 2).toNatClampNeg))) else (reg, kp, mo, put, tak, va, 0, 0, m, (pc + part 3), (pc + part 3), (mF_StepMachineModel_branches 5 (reg (part 1).toNatClampNeg) (reg (part 2).toNatClampNeg)))))) := by
    rw [mF_StepMachineModel_work, if_neg (show ¬ (5 : Int32) = 0 by decide), if_neg (show ¬ (5 : Int32) = 1 by decide), if_neg (show ¬ (5 : Int32) = 2 by decide), if_neg (show ¬ (5 : Int32) = 3 by decide), if_neg (show ¬ (10 : Int32) ≤ 5 by decide), if_pos (show (0 : Int32) = 0 from rfl), mF_StepMachineModel_work_9, show (1 : Int32).toNatClampNeg = 1 from rfl, show (2 : Int32).toNatClampNeg = 2 from rfl, show (3 : Int32).toNatClampNeg = 3 from rfl]
    generalize (mF_StepMachineModel_branches 5 (reg (part 1).toNatClampNeg) (reg (part 2).toNatClampNeg)) = bb
    rfl
  rw [e1, e2, reg_of hr0 (hp 1 (by decide)), reg_of hr0 (hp 2 (by decide)), ho_alike, cF_Core_jump, im_bare hk]
  by_cases h0 : (mF_StepMachineModel_branches 5 (reg (part 1).toNatClampNeg) (reg (part 2).toNatClampNeg)) = 0
  · rw [if_pos h0, if_pos h0]
    exact pw_non hN h8 h10 hr0 hm ho (k := 5) (d := part 0) (hp 0 (by decide)) (ev_add hpc (ev_n hn)) ht hu (by decide)
  · rw [if_neg h0, if_neg h0]
    by_cases h1 : on = 0
    · rw [if_pos h1, if_pos h1]
      exact pw_non hN h8 h10 hr0 hm ho (k := 5) (d := part 0) (hp 0 (by decide)) (ev_add hpc hev) ht hu (by decide)
    · rw [if_neg h1, if_neg h1]
      by_cases h2 : mF_StepMachineModel_isMarked mm (mF_StepMachineModel_bare (pc + part 3)) = 0
      · rw [if_pos h2, if_pos h2]
        exact pw_non hN h8 h10 hr0 hm ho (k := 5) (d := part 0) (hp 0 (by decide)) (ev_add hpc hev) ht hu (by decide)
      · rw [if_neg h2, if_neg h2]
        exact pw_non hN h8 h10 hr0 hm ho (k := 5) (d := part 0) (hp 0 (by decide)) (ev_add hpc hev) ht hu (by decide)
theorem pw_6 {pc va sp n on giv tak put kn tg : Int32} {part reg c m vm mm vi mi vo mo kp : Nat → Int32} {N : Nat} (hN : N < 100) (hL : mF_StepMachineModel_latest kn = nI (13 * N)) (h8 : kp (13 * N + 8) = 0) (h10 : kp (13 * N + 10) = -1) (hr0 : reg 0 = 0) (hm : Rm c m) (ho : Rb vo mo) (hi : Rb vi mi) (hk : Rk vm mm) (hpc : pc &&& 1 = 0) (hn : n = 2 ∨ n = 4) (hp : ∀ p, p < 3 → 0 ≤ (part p).toInt ∧ (part p).toInt < 32) (hg : 0 ≤ giv.toInt ∧ giv.toInt ≤ 1000) (ht : 0 ≤ tak.toInt) (hu : 0 ≤ put.toInt ∧ put.toInt ≤ 2000) (hev : part 3 &&& 1 = 0) : PWk 6 (part 0) (cF_Core_address reg (part 1) (part 3)) reg c m kp N (cF_Core_perform pc 0 0 va sp reg n 6 (part 0) (part 1) (part 2) (part 3) on vm c giv tak put vi vo) (mF_StepMachineModel_work on pc giv tak put 0 0 va sp kn n 6 tg part m mm reg mi mo kp) := by
  have e1 : cF_Core_perform pc 0 0 va sp reg n 6 (part 0) (part 1) (part 2) (part 3) on vm c giv tak put vi vo = (if cF_Arithmetic_holds 6 (cF_Core_register reg (part 1)) (cF_Core_register reg (part 2)) = 0 then (reg, c, pc + n, 0, 0, va, vo, put, tak) else (reg, c, (cF_Core_jump 0 0 on vm (pc + part 3)).1, (cF_Core_jump 0 0 on vm (pc + part 3)).2.1, (cF_Core_jump 0 0 on vm (pc + part 3)).2.2, va, vo, put, tak)) := by
    rw [cF_Core_perform, if_neg (show ¬ (6 : Int32) = 2 by decide), if_neg (show ¬ (6 : Int32) = 3 by decide), if_neg (show ¬ (6 : Int32) < 4 by decide), if_neg (show ¬ (9 : Int32) < 6 by decide), cF_Core_branch]
    by_cases h : cF_Arithmetic_holds 6 (cF_Core_register reg (part 1)) (cF_Core_register reg (part 2)) = 0
    · rw [if_pos h, if_pos h]; rfl
    · rw [if_neg h, if_neg h]; rfl
  have e2 : mF_StepMachineModel_work on pc giv tak put 0 0 va sp kn n 6 tg part m mm reg mi mo kp = (if (mF_StepMachineModel_branches 6 (reg (part 1).toNatClampNeg) (reg (part 2).toNatClampNeg)) = 0 then (reg, kp, mo, put, tak, va, 0, 0, m, (pc + n), (pc + part 3), (mF_StepMachineModel_branches 6 (reg (part 1).toNatClampNeg) (reg (part 2).toNatClampNeg))) else (if on = 0 then (reg, kp, mo, put, tak, va, 0, 0, m, (pc + part 3), (pc + part 3), (mF_StepMachineModel_branches 6 (reg (part 1).toNatClampNeg) (reg (part 2).toNatClampNeg))) else (if mF_StepMachineModel_isMarked mm (mF_StepMachineModel_bare (pc + part 3)) = 0 then (reg, kp, mo, put, tak, va, 5, (pc + part 3), m, (pc + part 3), (pc + part 3), (mF_StepMachineModel_branches 6 (reg (part 1).toNatClampNeg) (reg (part 2).toNatClampNeg))) else (reg, kp, mo, put, tak, va, 0, 0, m, (pc + part 3), (pc + part 3), (mF_StepMachineModel_branches 6 (reg (part 1).toNatClampNeg) (reg (part 2).toNatClampNeg)))))) := by
    rw [mF_StepMachineModel_work, if_neg (show ¬ (6 : Int32) = 0 by decide), if_neg (show ¬ (6 : Int32) = 1 by decide), if_neg (show ¬ (6 : Int32) = 2 by decide), if_neg (show ¬ (6 : Int32) = 3 by decide), if_neg (show ¬ (10 : Int32) ≤ 6 by decide), if_pos (show (0 : Int32) = 0 from rfl), mF_StepMachineModel_work_9, show (1 : Int32).toNatClampNeg = 1 from rfl, show (2 : Int32).toNatClampNeg = 2 from rfl, show (3 : Int32).toNatClampNeg = 3 from rfl]
    generalize (mF_StepMachineModel_branches 6 (reg (part 1).toNatClampNeg) (reg (part 2).toNatClampNeg)) = bb
    rfl
  rw [e1, e2, reg_of hr0 (hp 1 (by decide)), reg_of hr0 (hp 2 (by decide)), ho_alike, cF_Core_jump, im_bare hk]
  by_cases h0 : (mF_StepMachineModel_branches 6 (reg (part 1).toNatClampNeg) (reg (part 2).toNatClampNeg)) = 0
  · rw [if_pos h0, if_pos h0]
    exact pw_non hN h8 h10 hr0 hm ho (k := 6) (d := part 0) (hp 0 (by decide)) (ev_add hpc (ev_n hn)) ht hu (by decide)
  · rw [if_neg h0, if_neg h0]
    by_cases h1 : on = 0
    · rw [if_pos h1, if_pos h1]
      exact pw_non hN h8 h10 hr0 hm ho (k := 6) (d := part 0) (hp 0 (by decide)) (ev_add hpc hev) ht hu (by decide)
    · rw [if_neg h1, if_neg h1]
      by_cases h2 : mF_StepMachineModel_isMarked mm (mF_StepMachineModel_bare (pc + part 3)) = 0
      · rw [if_pos h2, if_pos h2]
        exact pw_non hN h8 h10 hr0 hm ho (k := 6) (d := part 0) (hp 0 (by decide)) (ev_add hpc hev) ht hu (by decide)
      · rw [if_neg h2, if_neg h2]
        exact pw_non hN h8 h10 hr0 hm ho (k := 6) (d := part 0) (hp 0 (by decide)) (ev_add hpc hev) ht hu (by decide)
theorem pw_7 {pc va sp n on giv tak put kn tg : Int32} {part reg c m vm mm vi mi vo mo kp : Nat → Int32} {N : Nat} (hN : N < 100) (hL : mF_StepMachineModel_latest kn = nI (13 * N)) (h8 : kp (13 * N + 8) = 0) (h10 : kp (13 * N + 10) = -1) (hr0 : reg 0 = 0) (hm : Rm c m) (ho : Rb vo mo) (hi : Rb vi mi) (hk : Rk vm mm) (hpc : pc &&& 1 = 0) (hn : n = 2 ∨ n = 4) (hp : ∀ p, p < 3 → 0 ≤ (part p).toInt ∧ (part p).toInt < 32) (hg : 0 ≤ giv.toInt ∧ giv.toInt ≤ 1000) (ht : 0 ≤ tak.toInt) (hu : 0 ≤ put.toInt ∧ put.toInt ≤ 2000) (hev : part 3 &&& 1 = 0) : PWk 7 (part 0) (cF_Core_address reg (part 1) (part 3)) reg c m kp N (cF_Core_perform pc 0 0 va sp reg n 7 (part 0) (part 1) (part 2) (part 3) on vm c giv tak put vi vo) (mF_StepMachineModel_work on pc giv tak put 0 0 va sp kn n 7 tg part m mm reg mi mo kp) := by
  have e1 : cF_Core_perform pc 0 0 va sp reg n 7 (part 0) (part 1) (part 2) (part 3) on vm c giv tak put vi vo = (if cF_Arithmetic_holds 7 (cF_Core_register reg (part 1)) (cF_Core_register reg (part 2)) = 0 then (reg, c, pc + n, 0, 0, va, vo, put, tak) else (reg, c, (cF_Core_jump 0 0 on vm (pc + part 3)).1, (cF_Core_jump 0 0 on vm (pc + part 3)).2.1, (cF_Core_jump 0 0 on vm (pc + part 3)).2.2, va, vo, put, tak)) := by
    rw [cF_Core_perform, if_neg (show ¬ (7 : Int32) = 2 by decide), if_neg (show ¬ (7 : Int32) = 3 by decide), if_neg (show ¬ (7 : Int32) < 4 by decide), if_neg (show ¬ (9 : Int32) < 7 by decide), cF_Core_branch]
    by_cases h : cF_Arithmetic_holds 7 (cF_Core_register reg (part 1)) (cF_Core_register reg (part 2)) = 0
    · rw [if_pos h, if_pos h]; rfl
    · rw [if_neg h, if_neg h]; rfl
  have e2 : mF_StepMachineModel_work on pc giv tak put 0 0 va sp kn n 7 tg part m mm reg mi mo kp = (if (mF_StepMachineModel_branches 7 (reg (part 1).toNatClampNeg) (reg (part 2).toNatClampNeg)) = 0 then (reg, kp, mo, put, tak, va, 0, 0, m, (pc + n), (pc + part 3), (mF_StepMachineModel_branches 7 (reg (part 1).toNatClampNeg) (reg (part 2).toNatClampNeg))) else (if on = 0 then (reg, kp, mo, put, tak, va, 0, 0, m, (pc + part 3), (pc + part 3), (mF_StepMachineModel_branches 7 (reg (part 1).toNatClampNeg) (reg (part 2).toNatClampNeg))) else (if mF_StepMachineModel_isMarked mm (mF_StepMachineModel_bare (pc + part 3)) = 0 then (reg, kp, mo, put, tak, va, 5, (pc + part 3), m, (pc + part 3), (pc + part 3), (mF_StepMachineModel_branches 7 (reg (part 1).toNatClampNeg) (reg (part 2).toNatClampNeg))) else (reg, kp, mo, put, tak, va, 0, 0, m, (pc + part 3), (pc + part 3), (mF_StepMachineModel_branches 7 (reg (part 1).toNatClampNeg) (reg (part 2).toNatClampNeg)))))) := by
    rw [mF_StepMachineModel_work, if_neg (show ¬ (7 : Int32) = 0 by decide), if_neg (show ¬ (7 : Int32) = 1 by decide), if_neg (show ¬ (7 : Int32) = 2 by decide), if_neg (show ¬ (7 : Int32) = 3 by decide), if_neg (show ¬ (10 : Int32) ≤ 7 by decide), if_pos (show (0 : Int32) = 0 from rfl), mF_StepMachineModel_work_9, show (1 : Int32).toNatClampNeg = 1 from rfl, show (2 : Int32).toNatClampNeg = 2 from rfl, show (3 : Int32).toNatClampNeg = 3 from rfl]
    generalize (mF_StepMachineModel_branches 7 (reg (part 1).toNatClampNeg) (reg (part 2).toNatClampNeg)) = bb
    rfl
  rw [e1, e2, reg_of hr0 (hp 1 (by decide)), reg_of hr0 (hp 2 (by decide)), ho_alike, cF_Core_jump, im_bare hk]
  by_cases h0 : (mF_StepMachineModel_branches 7 (reg (part 1).toNatClampNeg) (reg (part 2).toNatClampNeg)) = 0
  · rw [if_pos h0, if_pos h0]
    exact pw_non hN h8 h10 hr0 hm ho (k := 7) (d := part 0) (hp 0 (by decide)) (ev_add hpc (ev_n hn)) ht hu (by decide)
  · rw [if_neg h0, if_neg h0]
    by_cases h1 : on = 0
    · rw [if_pos h1, if_pos h1]
      exact pw_non hN h8 h10 hr0 hm ho (k := 7) (d := part 0) (hp 0 (by decide)) (ev_add hpc hev) ht hu (by decide)
    · rw [if_neg h1, if_neg h1]
      by_cases h2 : mF_StepMachineModel_isMarked mm (mF_StepMachineModel_bare (pc + part 3)) = 0
      · rw [if_pos h2, if_pos h2]
        exact pw_non hN h8 h10 hr0 hm ho (k := 7) (d := part 0) (hp 0 (by decide)) (ev_add hpc hev) ht hu (by decide)
      · rw [if_neg h2, if_neg h2]
        exact pw_non hN h8 h10 hr0 hm ho (k := 7) (d := part 0) (hp 0 (by decide)) (ev_add hpc hev) ht hu (by decide)
theorem pw_8 {pc va sp n on giv tak put kn tg : Int32} {part reg c m vm mm vi mi vo mo kp : Nat → Int32} {N : Nat} (hN : N < 100) (hL : mF_StepMachineModel_latest kn = nI (13 * N)) (h8 : kp (13 * N + 8) = 0) (h10 : kp (13 * N + 10) = -1) (hr0 : reg 0 = 0) (hm : Rm c m) (ho : Rb vo mo) (hi : Rb vi mi) (hk : Rk vm mm) (hpc : pc &&& 1 = 0) (hn : n = 2 ∨ n = 4) (hp : ∀ p, p < 3 → 0 ≤ (part p).toInt ∧ (part p).toInt < 32) (hg : 0 ≤ giv.toInt ∧ giv.toInt ≤ 1000) (ht : 0 ≤ tak.toInt) (hu : 0 ≤ put.toInt ∧ put.toInt ≤ 2000) (hev : part 3 &&& 1 = 0) : PWk 8 (part 0) (cF_Core_address reg (part 1) (part 3)) reg c m kp N (cF_Core_perform pc 0 0 va sp reg n 8 (part 0) (part 1) (part 2) (part 3) on vm c giv tak put vi vo) (mF_StepMachineModel_work on pc giv tak put 0 0 va sp kn n 8 tg part m mm reg mi mo kp) := by
  have e1 : cF_Core_perform pc 0 0 va sp reg n 8 (part 0) (part 1) (part 2) (part 3) on vm c giv tak put vi vo = (if cF_Arithmetic_holds 8 (cF_Core_register reg (part 1)) (cF_Core_register reg (part 2)) = 0 then (reg, c, pc + n, 0, 0, va, vo, put, tak) else (reg, c, (cF_Core_jump 0 0 on vm (pc + part 3)).1, (cF_Core_jump 0 0 on vm (pc + part 3)).2.1, (cF_Core_jump 0 0 on vm (pc + part 3)).2.2, va, vo, put, tak)) := by
    rw [cF_Core_perform, if_neg (show ¬ (8 : Int32) = 2 by decide), if_neg (show ¬ (8 : Int32) = 3 by decide), if_neg (show ¬ (8 : Int32) < 4 by decide), if_neg (show ¬ (9 : Int32) < 8 by decide), cF_Core_branch]
    by_cases h : cF_Arithmetic_holds 8 (cF_Core_register reg (part 1)) (cF_Core_register reg (part 2)) = 0
    · rw [if_pos h, if_pos h]; rfl
    · rw [if_neg h, if_neg h]; rfl
  have e2 : mF_StepMachineModel_work on pc giv tak put 0 0 va sp kn n 8 tg part m mm reg mi mo kp = (if (mF_StepMachineModel_branches 8 (reg (part 1).toNatClampNeg) (reg (part 2).toNatClampNeg)) = 0 then (reg, kp, mo, put, tak, va, 0, 0, m, (pc + n), (pc + part 3), (mF_StepMachineModel_branches 8 (reg (part 1).toNatClampNeg) (reg (part 2).toNatClampNeg))) else (if on = 0 then (reg, kp, mo, put, tak, va, 0, 0, m, (pc + part 3), (pc + part 3), (mF_StepMachineModel_branches 8 (reg (part 1).toNatClampNeg) (reg (part 2).toNatClampNeg))) else (if mF_StepMachineModel_isMarked mm (mF_StepMachineModel_bare (pc + part 3)) = 0 then (reg, kp, mo, put, tak, va, 5, (pc + part 3), m, (pc + part 3), (pc + part 3), (mF_StepMachineModel_branches 8 (reg (part 1).toNatClampNeg) (reg (part 2).toNatClampNeg))) else (reg, kp, mo, put, tak, va, 0, 0, m, (pc + part 3), (pc + part 3), (mF_StepMachineModel_branches 8 (reg (part 1).toNatClampNeg) (reg (part 2).toNatClampNeg)))))) := by
    rw [mF_StepMachineModel_work, if_neg (show ¬ (8 : Int32) = 0 by decide), if_neg (show ¬ (8 : Int32) = 1 by decide), if_neg (show ¬ (8 : Int32) = 2 by decide), if_neg (show ¬ (8 : Int32) = 3 by decide), if_neg (show ¬ (10 : Int32) ≤ 8 by decide), if_pos (show (0 : Int32) = 0 from rfl), mF_StepMachineModel_work_9, show (1 : Int32).toNatClampNeg = 1 from rfl, show (2 : Int32).toNatClampNeg = 2 from rfl, show (3 : Int32).toNatClampNeg = 3 from rfl]
    generalize (mF_StepMachineModel_branches 8 (reg (part 1).toNatClampNeg) (reg (part 2).toNatClampNeg)) = bb
    rfl
  rw [e1, e2, reg_of hr0 (hp 1 (by decide)), reg_of hr0 (hp 2 (by decide)), ho_alike, cF_Core_jump, im_bare hk]
  by_cases h0 : (mF_StepMachineModel_branches 8 (reg (part 1).toNatClampNeg) (reg (part 2).toNatClampNeg)) = 0
  · rw [if_pos h0, if_pos h0]
    exact pw_non hN h8 h10 hr0 hm ho (k := 8) (d := part 0) (hp 0 (by decide)) (ev_add hpc (ev_n hn)) ht hu (by decide)
  · rw [if_neg h0, if_neg h0]
    by_cases h1 : on = 0
    · rw [if_pos h1, if_pos h1]
      exact pw_non hN h8 h10 hr0 hm ho (k := 8) (d := part 0) (hp 0 (by decide)) (ev_add hpc hev) ht hu (by decide)
    · rw [if_neg h1, if_neg h1]
      by_cases h2 : mF_StepMachineModel_isMarked mm (mF_StepMachineModel_bare (pc + part 3)) = 0
      · rw [if_pos h2, if_pos h2]
        exact pw_non hN h8 h10 hr0 hm ho (k := 8) (d := part 0) (hp 0 (by decide)) (ev_add hpc hev) ht hu (by decide)
      · rw [if_neg h2, if_neg h2]
        exact pw_non hN h8 h10 hr0 hm ho (k := 8) (d := part 0) (hp 0 (by decide)) (ev_add hpc hev) ht hu (by decide)
theorem pw_9 {pc va sp n on giv tak put kn tg : Int32} {part reg c m vm mm vi mi vo mo kp : Nat → Int32} {N : Nat} (hN : N < 100) (hL : mF_StepMachineModel_latest kn = nI (13 * N)) (h8 : kp (13 * N + 8) = 0) (h10 : kp (13 * N + 10) = -1) (hr0 : reg 0 = 0) (hm : Rm c m) (ho : Rb vo mo) (hi : Rb vi mi) (hk : Rk vm mm) (hpc : pc &&& 1 = 0) (hn : n = 2 ∨ n = 4) (hp : ∀ p, p < 3 → 0 ≤ (part p).toInt ∧ (part p).toInt < 32) (hg : 0 ≤ giv.toInt ∧ giv.toInt ≤ 1000) (ht : 0 ≤ tak.toInt) (hu : 0 ≤ put.toInt ∧ put.toInt ≤ 2000) (hev : part 3 &&& 1 = 0) : PWk 9 (part 0) (cF_Core_address reg (part 1) (part 3)) reg c m kp N (cF_Core_perform pc 0 0 va sp reg n 9 (part 0) (part 1) (part 2) (part 3) on vm c giv tak put vi vo) (mF_StepMachineModel_work on pc giv tak put 0 0 va sp kn n 9 tg part m mm reg mi mo kp) := by
  have e1 : cF_Core_perform pc 0 0 va sp reg n 9 (part 0) (part 1) (part 2) (part 3) on vm c giv tak put vi vo = (if cF_Arithmetic_holds 9 (cF_Core_register reg (part 1)) (cF_Core_register reg (part 2)) = 0 then (reg, c, pc + n, 0, 0, va, vo, put, tak) else (reg, c, (cF_Core_jump 0 0 on vm (pc + part 3)).1, (cF_Core_jump 0 0 on vm (pc + part 3)).2.1, (cF_Core_jump 0 0 on vm (pc + part 3)).2.2, va, vo, put, tak)) := by
    rw [cF_Core_perform, if_neg (show ¬ (9 : Int32) = 2 by decide), if_neg (show ¬ (9 : Int32) = 3 by decide), if_neg (show ¬ (9 : Int32) < 4 by decide), if_neg (show ¬ (9 : Int32) < 9 by decide), cF_Core_branch]
    by_cases h : cF_Arithmetic_holds 9 (cF_Core_register reg (part 1)) (cF_Core_register reg (part 2)) = 0
    · rw [if_pos h, if_pos h]; rfl
    · rw [if_neg h, if_neg h]; rfl
  have e2 : mF_StepMachineModel_work on pc giv tak put 0 0 va sp kn n 9 tg part m mm reg mi mo kp = (if (mF_StepMachineModel_branches 9 (reg (part 1).toNatClampNeg) (reg (part 2).toNatClampNeg)) = 0 then (reg, kp, mo, put, tak, va, 0, 0, m, (pc + n), (pc + part 3), (mF_StepMachineModel_branches 9 (reg (part 1).toNatClampNeg) (reg (part 2).toNatClampNeg))) else (if on = 0 then (reg, kp, mo, put, tak, va, 0, 0, m, (pc + part 3), (pc + part 3), (mF_StepMachineModel_branches 9 (reg (part 1).toNatClampNeg) (reg (part 2).toNatClampNeg))) else (if mF_StepMachineModel_isMarked mm (mF_StepMachineModel_bare (pc + part 3)) = 0 then (reg, kp, mo, put, tak, va, 5, (pc + part 3), m, (pc + part 3), (pc + part 3), (mF_StepMachineModel_branches 9 (reg (part 1).toNatClampNeg) (reg (part 2).toNatClampNeg))) else (reg, kp, mo, put, tak, va, 0, 0, m, (pc + part 3), (pc + part 3), (mF_StepMachineModel_branches 9 (reg (part 1).toNatClampNeg) (reg (part 2).toNatClampNeg)))))) := by
    rw [mF_StepMachineModel_work, if_neg (show ¬ (9 : Int32) = 0 by decide), if_neg (show ¬ (9 : Int32) = 1 by decide), if_neg (show ¬ (9 : Int32) = 2 by decide), if_neg (show ¬ (9 : Int32) = 3 by decide), if_neg (show ¬ (10 : Int32) ≤ 9 by decide), if_pos (show (0 : Int32) = 0 from rfl), mF_StepMachineModel_work_9, show (1 : Int32).toNatClampNeg = 1 from rfl, show (2 : Int32).toNatClampNeg = 2 from rfl, show (3 : Int32).toNatClampNeg = 3 from rfl]
    generalize (mF_StepMachineModel_branches 9 (reg (part 1).toNatClampNeg) (reg (part 2).toNatClampNeg)) = bb
    rfl
  rw [e1, e2, reg_of hr0 (hp 1 (by decide)), reg_of hr0 (hp 2 (by decide)), ho_alike, cF_Core_jump, im_bare hk]
  by_cases h0 : (mF_StepMachineModel_branches 9 (reg (part 1).toNatClampNeg) (reg (part 2).toNatClampNeg)) = 0
  · rw [if_pos h0, if_pos h0]
    exact pw_non hN h8 h10 hr0 hm ho (k := 9) (d := part 0) (hp 0 (by decide)) (ev_add hpc (ev_n hn)) ht hu (by decide)
  · rw [if_neg h0, if_neg h0]
    by_cases h1 : on = 0
    · rw [if_pos h1, if_pos h1]
      exact pw_non hN h8 h10 hr0 hm ho (k := 9) (d := part 0) (hp 0 (by decide)) (ev_add hpc hev) ht hu (by decide)
    · rw [if_neg h1, if_neg h1]
      by_cases h2 : mF_StepMachineModel_isMarked mm (mF_StepMachineModel_bare (pc + part 3)) = 0
      · rw [if_pos h2, if_pos h2]
        exact pw_non hN h8 h10 hr0 hm ho (k := 9) (d := part 0) (hp 0 (by decide)) (ev_add hpc hev) ht hu (by decide)
      · rw [if_neg h2, if_neg h2]
        exact pw_non hN h8 h10 hr0 hm ho (k := 9) (d := part 0) (hp 0 (by decide)) (ev_add hpc hev) ht hu (by decide)
theorem pw_45 {pc va sp n on giv tak put kn tg : Int32} {part reg c m vm mm vi mi vo mo kp : Nat → Int32} {N : Nat} (hN : N < 100) (hL : mF_StepMachineModel_latest kn = nI (13 * N)) (h8 : kp (13 * N + 8) = 0) (h10 : kp (13 * N + 10) = -1) (hr0 : reg 0 = 0) (hm : Rm c m) (ho : Rb vo mo) (hi : Rb vi mi) (hk : Rk vm mm) (hpc : pc &&& 1 = 0) (hn : n = 2 ∨ n = 4) (hp : ∀ p, p < 3 → 0 ≤ (part p).toInt ∧ (part p).toInt < 32) (hg : 0 ≤ giv.toInt ∧ giv.toInt ≤ 1000) (ht : 0 ≤ tak.toInt) (hu : 0 ≤ put.toInt ∧ put.toInt ≤ 2000) : PWk 45 (part 0) (cF_Core_address reg (part 1) (part 3)) reg c m kp N (cF_Core_perform pc 0 0 va sp reg n 45 (part 0) (part 1) (part 2) (part 3) on vm c giv tak put vi vo) (mF_StepMachineModel_work on pc giv tak put 0 0 va sp kn n 45 tg part m mm reg mi mo kp) := by
  exact pw_non hN h8 h10 hr0 hm ho (k := 45) (d := part 0) (hp 0 (by decide)) (ev_add hpc (ev_n hn)) ht hu (by decide)
theorem pw_47 {pc va sp n on giv tak put kn tg : Int32} {part reg c m vm mm vi mi vo mo kp : Nat → Int32} {N : Nat} (hN : N < 100) (hL : mF_StepMachineModel_latest kn = nI (13 * N)) (h8 : kp (13 * N + 8) = 0) (h10 : kp (13 * N + 10) = -1) (hr0 : reg 0 = 0) (hm : Rm c m) (ho : Rb vo mo) (hi : Rb vi mi) (hk : Rk vm mm) (hpc : pc &&& 1 = 0) (hn : n = 2 ∨ n = 4) (hp : ∀ p, p < 3 → 0 ≤ (part p).toInt ∧ (part p).toInt < 32) (hg : 0 ≤ giv.toInt ∧ giv.toInt ≤ 1000) (ht : 0 ≤ tak.toInt) (hu : 0 ≤ put.toInt ∧ put.toInt ≤ 2000) : PWk 47 (part 0) (cF_Core_address reg (part 1) (part 3)) reg c m kp N (cF_Core_perform pc 0 0 va sp reg n 47 (part 0) (part 1) (part 2) (part 3) on vm c giv tak put vi vo) (mF_StepMachineModel_work on pc giv tak put 0 0 va sp kn n 47 tg part m mm reg mi mo kp) := by
  exact pw_non hN h8 h10 hr0 hm ho (k := 47) (d := part 0) (hp 0 (by decide)) hpc ht hu (by decide)
theorem pw_46 {pc va sp n on giv tak put kn tg : Int32} {part reg c m vm mm vi mi vo mo kp : Nat → Int32} {N : Nat} (hN : N < 100) (hL : mF_StepMachineModel_latest kn = nI (13 * N)) (h8 : kp (13 * N + 8) = 0) (h10 : kp (13 * N + 10) = -1) (hr0 : reg 0 = 0) (hm : Rm c m) (ho : Rb vo mo) (hi : Rb vi mi) (hk : Rk vm mm) (hpc : pc &&& 1 = 0) (hn : n = 2 ∨ n = 4) (hp : ∀ p, p < 3 → 0 ≤ (part p).toInt ∧ (part p).toInt < 32) (hg : 0 ≤ giv.toInt ∧ giv.toInt ≤ 1000) (ht : 0 ≤ tak.toInt) (hu : 0 ≤ put.toInt ∧ put.toInt ≤ 2000) : PWk 46 (part 0) (cF_Core_address reg (part 1) (part 3)) reg c m kp N (cF_Core_perform pc 0 0 va sp reg n 46 (part 0) (part 1) (part 2) (part 3) on vm c giv tak put vi vo) (mF_StepMachineModel_work on pc giv tak put 0 0 va sp kn n 46 tg part m mm reg mi mo kp) := by
  show PWk 46 (part 0) (cF_Core_address reg (part 1) (part 3)) reg c m kp N (cF_Core_perform_8 c (cF_Core_serve pc 0 0 va sp reg n giv tak put vi vo)) (mF_StepMachineModel_work_4 pc n tg m (mF_StepMachineModel_serve pc giv tak put 0 0 va sp kn reg mi mo kp))
  rw [cF_Core_serve, mF_StepMachineModel_serve, show cF_Core_register reg 17 = (reg (17 : Int32).toNatClampNeg) from rfl, show cF_Core_register reg 10 = (reg (10 : Int32).toNatClampNeg) from rfl]
  have hev := ev_add hpc (ev_n hn)
  by_cases s1 : (reg (17 : Int32).toNatClampNeg) = 1
  · rw [if_pos s1, if_pos s1, cF_Ports_put]
    by_cases c1 : put < 2000
    · have a := ti_lt c1
      rw [e_2000] at a
      rw [if_pos c1, if_neg (show ¬ 2000 ≤ put from fun q => by have b := ti_le q; rw [e_2000] at b; omega)]
      show PWk 46 (part 0) (cF_Core_address reg (part 1) (part 3)) reg c m kp N ((cF_Core_putRegister reg (rec8 46 (part 0)) (put + 1)).2, c, pc + n, 0, 0, va, (upd vo put.toNatClampNeg (vp_nar .byte (reg (10 : Int32).toNatClampNeg).toInt8.toInt32)), (put + 1), tak) ((mF_StepMachineModel_become kn reg kp (rec8 46 (part 0)) (put + 1)).1, (mF_StepMachineModel_become kn reg kp (rec8 46 (part 0)) (put + 1)).2, (upd mo put.toNatClampNeg ((reg (10 : Int32).toNatClampNeg) &&& 255)), (put + 1), tak, va, 0, 0, m, pc + n, tg, 0)
      refine pw_reg (k := 46) (d := part 0) hN hL h8 h10 hr0 hm (fun j => ?_) (show 0 ≤ (10 : Int32).toInt ∧ (10 : Int32).toInt < 32 by decide) hev ht ⟨?_, ?_⟩ (by decide)
      · by_cases hj : j = put.toNatClampNeg
        · rw [hj, pk_us, pk_us, byte_and]
        · rw [pk_un hj, pk_un hj, ho j]
      · rw [r_oneM hu.1 (by omega)]; omega
      · rw [r_oneM hu.1 (by omega)]; omega
    · have a := ob_nlt c1
      rw [e_2000] at a
      rw [if_neg c1, if_pos (show 2000 ≤ put from Int32.le_iff_toInt_le.mpr (by rw [e_2000]; exact a))]
      show PWk 46 (part 0) (cF_Core_address reg (part 1) (part 3)) reg c m kp N ((cF_Core_putRegister reg (rec8 46 (part 0)) (-1)).2, c, pc + n, 0, 0, va, vo, put, tak) ((mF_StepMachineModel_become kn reg kp (rec8 46 (part 0)) (-1)).1, (mF_StepMachineModel_become kn reg kp (rec8 46 (part 0)) (-1)).2, mo, put, tak, va, 0, 0, m, pc + n, tg, 0)
      exact pw_reg (k := 46) (d := part 0) hN hL h8 h10 hr0 hm ho (show 0 ≤ (10 : Int32).toInt ∧ (10 : Int32).toInt < 32 by decide) hev ht hu (by decide)
  · rw [if_neg s1, if_neg s1]
    by_cases s2 : (reg (17 : Int32).toNatClampNeg) = 2
    · rw [if_pos s2, if_pos s2, cF_Ports_take]
      by_cases c1 : tak < giv
      · have a := ti_lt c1
        rw [if_pos c1, if_neg (show ¬ giv ≤ tak from fun q => by have b := ti_le q; omega)]
        show PWk 46 (part 0) (cF_Core_address reg (part 1) (part 3)) reg c m kp N ((cF_Core_putRegister reg (rec8 46 (part 0)) (vi tak.toNatClampNeg &&& 255)).2, c, pc + n, 0, 0, va, vo, put, (tak + 1)) ((mF_StepMachineModel_become kn reg kp (rec8 46 (part 0)) (mi tak.toNatClampNeg)).1, (mF_StepMachineModel_become kn reg kp (rec8 46 (part 0)) (mi tak.toNatClampNeg)).2, mo, put, (tak + 1), va, 0, 0, m, pc + n, tg, 0)
        rw [hi tak.toNatClampNeg]
        exact pw_reg (k := 46) (d := part 0) hN hL h8 h10 hr0 hm ho (show 0 ≤ (10 : Int32).toInt ∧ (10 : Int32).toInt < 32 by decide) hev (by rw [r_oneM ht (by omega)]; omega) hu (by decide)
      · have a := ob_nlt c1
        rw [if_neg c1, if_pos (show giv ≤ tak from Int32.le_iff_toInt_le.mpr a)]
        show PWk 46 (part 0) (cF_Core_address reg (part 1) (part 3)) reg c m kp N ((cF_Core_putRegister reg (rec8 46 (part 0)) (-1)).2, c, pc + n, 0, 0, va, vo, put, tak) ((mF_StepMachineModel_become kn reg kp (rec8 46 (part 0)) (-1)).1, (mF_StepMachineModel_become kn reg kp (rec8 46 (part 0)) (-1)).2, mo, put, tak, va, 0, 0, m, pc + n, tg, 0)
        exact pw_reg (k := 46) (d := part 0) hN hL h8 h10 hr0 hm ho (show 0 ≤ (10 : Int32).toInt ∧ (10 : Int32).toInt < 32 by decide) hev ht hu (by decide)
    · rw [if_neg s2, if_neg s2]
      by_cases s3 : (reg (17 : Int32).toNatClampNeg) = 3
      · rw [if_pos s3, if_pos s3]
        show PWk 46 (part 0) (cF_Core_address reg (part 1) (part 3)) reg c m kp N ((cF_Core_putRegister reg (rec8 46 (part 0)) sp).2, c, pc + n, 0, 0, va, vo, put, tak) ((mF_StepMachineModel_become kn reg kp (rec8 46 (part 0)) sp).1, (mF_StepMachineModel_become kn reg kp (rec8 46 (part 0)) sp).2, mo, put, tak, va, 0, 0, m, pc + n, tg, 0)
        exact pw_reg (k := 46) (d := part 0) hN hL h8 h10 hr0 hm ho (show 0 ≤ (10 : Int32).toInt ∧ (10 : Int32).toInt < 32 by decide) hev ht hu (by decide)
      · rw [if_neg s3, if_neg s3]
        by_cases s4 : (reg (17 : Int32).toNatClampNeg) = 4
        · rw [if_pos s4, if_pos s4]
          show PWk 46 (part 0) (cF_Core_address reg (part 1) (part 3)) reg c m kp N (reg, c, pc, 7, pc, va, vo, put, tak) (reg, kp, mo, put, tak, va, 7, pc, m, pc, tg, 0)
          exact pw_non (k := 46) (d := part 0) hN h8 h10 hr0 hm ho (show 0 ≤ (10 : Int32).toInt ∧ (10 : Int32).toInt < 32 by decide) hpc ht hu (by decide)
        · rw [if_neg s4, if_neg s4]
          by_cases s5 : (reg (17 : Int32).toNatClampNeg) = 5
          · rw [if_pos s5, if_pos s5]
            show PWk 46 (part 0) (cF_Core_address reg (part 1) (part 3)) reg c m kp N (reg, c, pc, 7, pc, va, vo, put, tak) (reg, kp, mo, put, tak, va, 7, pc, m, pc, tg, 0)
            exact pw_non (k := 46) (d := part 0) hN h8 h10 hr0 hm ho (show 0 ≤ (10 : Int32).toInt ∧ (10 : Int32).toInt < 32 by decide) hpc ht hu (by decide)
          · rw [if_neg s5, if_neg s5]
            by_cases s6 : (reg (17 : Int32).toNatClampNeg) = 6
            · rw [if_pos s6, if_pos s6]
              show PWk 46 (part 0) (cF_Core_address reg (part 1) (part 3)) reg c m kp N (reg, c, pc, 7, pc, va, vo, put, tak) (reg, kp, mo, put, tak, va, 7, pc, m, pc, tg, 0)
              exact pw_non (k := 46) (d := part 0) hN h8 h10 hr0 hm ho (show 0 ≤ (10 : Int32).toInt ∧ (10 : Int32).toInt < 32 by decide) hpc ht hu (by decide)
            · rw [if_neg s6, if_neg s6]
              by_cases s7 : (reg (17 : Int32).toNatClampNeg) = 7
              · rw [if_pos s7, if_pos s7]
                show PWk 46 (part 0) (cF_Core_address reg (part 1) (part 3)) reg c m kp N (reg, c, pc, 7, pc, va, vo, put, tak) (reg, kp, mo, put, tak, va, 7, pc, m, pc, tg, 0)
                exact pw_non (k := 46) (d := part 0) hN h8 h10 hr0 hm ho (show 0 ≤ (10 : Int32).toInt ∧ (10 : Int32).toInt < 32 by decide) hpc ht hu (by decide)
              · rw [if_neg s7, if_neg s7]
                by_cases s8 : (reg (17 : Int32).toNatClampNeg) = 8
                · rw [if_pos s8, if_pos s8]
                  show PWk 46 (part 0) (cF_Core_address reg (part 1) (part 3)) reg c m kp N (reg, c, pc, 7, pc, va, vo, put, tak) (reg, kp, mo, put, tak, va, 7, pc, m, pc, tg, 0)
                  exact pw_non (k := 46) (d := part 0) hN h8 h10 hr0 hm ho (show 0 ≤ (10 : Int32).toInt ∧ (10 : Int32).toInt < 32 by decide) hpc ht hu (by decide)
                · rw [if_neg s8, if_neg s8]
                  by_cases s9 : (reg (17 : Int32).toNatClampNeg) = 9
                  · rw [if_pos s9, if_pos s9]
                    show PWk 46 (part 0) (cF_Core_address reg (part 1) (part 3)) reg c m kp N (reg, c, pc, 7, pc, va, vo, put, tak) (reg, kp, mo, put, tak, va, 7, pc, m, pc, tg, 0)
                    exact pw_non (k := 46) (d := part 0) hN h8 h10 hr0 hm ho (show 0 ≤ (10 : Int32).toInt ∧ (10 : Int32).toInt < 32 by decide) hpc ht hu (by decide)
                  · rw [if_neg s9, if_neg s9]
                    by_cases s10 : (reg (17 : Int32).toNatClampNeg) = 10
                    · rw [if_pos s10, if_pos s10]
                      show PWk 46 (part 0) (cF_Core_address reg (part 1) (part 3)) reg c m kp N (reg, c, pc, 8, pc, (reg (10 : Int32).toNatClampNeg), vo, put, tak) (reg, kp, mo, put, tak, (reg (10 : Int32).toNatClampNeg), 8, pc, m, pc, tg, 0)
                      exact pw_non (k := 46) (d := part 0) hN h8 h10 hr0 hm ho (show 0 ≤ (10 : Int32).toInt ∧ (10 : Int32).toInt < 32 by decide) hpc ht hu (by decide)
                    · rw [if_neg s10, if_neg s10]
                      show PWk 46 (part 0) (cF_Core_address reg (part 1) (part 3)) reg c m kp N (reg, c, pc, 7, pc, va, vo, put, tak) (reg, kp, mo, put, tak, va, 7, pc, m, pc, tg, 0)
                      exact pw_non (k := 46) (d := part 0) hN h8 h10 hr0 hm ho (show 0 ≤ (10 : Int32).toInt ∧ (10 : Int32).toInt < 32 by decide) hpc ht hu (by decide)
theorem pw_all {pc va sp n on giv tak put kn tg : Int32} {part reg c m vm mm vi mi vo mo kp : Nat → Int32} {N : Nat} (hN : N < 100) (hL : mF_StepMachineModel_latest kn = nI (13 * N)) (h8 : kp (13 * N + 8) = 0) (h10 : kp (13 * N + 10) = -1) (hr0 : reg 0 = 0) (hm : Rm c m) (ho : Rb vo mo) (hi : Rb vi mi) (hk : Rk vm mm) (hpc : pc &&& 1 = 0) (hn : n = 2 ∨ n = 4) (hp : ∀ p, p < 3 → 0 ≤ (part p).toInt ∧ (part p).toInt < 32) (hg : 0 ≤ giv.toInt ∧ giv.toInt ≤ 1000) (ht : 0 ≤ tak.toInt) (hu : 0 ≤ put.toInt ∧ put.toInt ≤ 2000) {k : Int32} (hk0 : 0 ≤ k.toInt) (hk1 : k.toInt < 48) (hev : (k = 2 ∨ (4 ≤ k.toInt ∧ k.toInt < 10)) → part 3 &&& 1 = 0) (hA : 9 < k.toInt → k.toInt < 18 → ∃ a : Nat, (reg (part 1).toNatClampNeg + part 3) = nI a ∧ a + (mF_StepMachineModel_widthOf k).toInt.toNat ≤ 131072 ∧ a % (mF_StepMachineModel_widthOf k).toInt.toNat = 0) : PWk k (part 0) (cF_Core_address reg (part 1) (part 3)) reg c m kp N (cF_Core_perform pc 0 0 va sp reg n k (part 0) (part 1) (part 2) (part 3) on vm c giv tak put vi vo) (mF_StepMachineModel_work on pc giv tak put 0 0 va sp kn n k tg part m mm reg mi mo kp) := by
  rcases kdc hk0 hk1 with rfl | rfl | rfl | rfl | rfl | rfl | rfl | rfl | rfl | rfl | rfl | rfl | rfl | rfl | rfl | rfl | rfl | rfl | rfl | rfl | rfl | rfl | rfl | rfl | rfl | rfl | rfl | rfl | rfl | rfl | rfl | rfl | rfl | rfl | rfl | rfl | rfl | rfl | rfl | rfl | rfl | rfl | rfl | rfl | rfl | rfl | rfl | rfl
  · exact pw_0 hN hL h8 h10 hr0 hm ho hi hk hpc hn hp hg ht hu
  · exact pw_1 hN hL h8 h10 hr0 hm ho hi hk hpc hn hp hg ht hu
  · exact pw_2 hN hL h8 h10 hr0 hm ho hi hk hpc hn hp hg ht hu (hev (Or.inl rfl))
  · exact pw_3 hN hL h8 h10 hr0 hm ho hi hk hpc hn hp hg ht hu
  · exact pw_4 hN hL h8 h10 hr0 hm ho hi hk hpc hn hp hg ht hu (hev (Or.inr (by decide)))
  · exact pw_5 hN hL h8 h10 hr0 hm ho hi hk hpc hn hp hg ht hu (hev (Or.inr (by decide)))
  · exact pw_6 hN hL h8 h10 hr0 hm ho hi hk hpc hn hp hg ht hu (hev (Or.inr (by decide)))
  · exact pw_7 hN hL h8 h10 hr0 hm ho hi hk hpc hn hp hg ht hu (hev (Or.inr (by decide)))
  · exact pw_8 hN hL h8 h10 hr0 hm ho hi hk hpc hn hp hg ht hu (hev (Or.inr (by decide)))
  · exact pw_9 hN hL h8 h10 hr0 hm ho hi hk hpc hn hp hg ht hu (hev (Or.inr (by decide)))
  · obtain ⟨a, hx, h1, h2⟩ := hA (by decide) (by decide)
    rw [show (mF_StepMachineModel_widthOf 10).toInt.toNat = 1 from by decide] at h1 h2
    exact pw_10 hN hL h8 h10 hr0 hm ho hi hk hpc hn hp hg ht hu hx h1
  · obtain ⟨a, hx, h1, h2⟩ := hA (by decide) (by decide)
    rw [show (mF_StepMachineModel_widthOf 11).toInt.toNat = 2 from by decide] at h1 h2
    exact pw_11 hN hL h8 h10 hr0 hm ho hi hk hpc hn hp hg ht hu hx h1 h2
  · obtain ⟨a, hx, h1, h2⟩ := hA (by decide) (by decide)
    rw [show (mF_StepMachineModel_widthOf 12).toInt.toNat = 4 from by decide] at h1 h2
    exact pw_12 hN hL h8 h10 hr0 hm ho hi hk hpc hn hp hg ht hu hx h1 h2
  · obtain ⟨a, hx, h1, h2⟩ := hA (by decide) (by decide)
    rw [show (mF_StepMachineModel_widthOf 13).toInt.toNat = 1 from by decide] at h1 h2
    exact pw_13 hN hL h8 h10 hr0 hm ho hi hk hpc hn hp hg ht hu hx h1
  · obtain ⟨a, hx, h1, h2⟩ := hA (by decide) (by decide)
    rw [show (mF_StepMachineModel_widthOf 14).toInt.toNat = 2 from by decide] at h1 h2
    exact pw_14 hN hL h8 h10 hr0 hm ho hi hk hpc hn hp hg ht hu hx h1 h2
  · obtain ⟨a, hx, h1, h2⟩ := hA (by decide) (by decide)
    rw [show (mF_StepMachineModel_widthOf 15).toInt.toNat = 1 from by decide] at h1 h2
    exact pw_15 hN hL h8 h10 hr0 hm ho hi hk hpc hn hp hg ht hu hx h1
  · obtain ⟨a, hx, h1, h2⟩ := hA (by decide) (by decide)
    rw [show (mF_StepMachineModel_widthOf 16).toInt.toNat = 2 from by decide] at h1 h2
    exact pw_16 hN hL h8 h10 hr0 hm ho hi hk hpc hn hp hg ht hu hx h1 h2
  · obtain ⟨a, hx, h1, h2⟩ := hA (by decide) (by decide)
    rw [show (mF_StepMachineModel_widthOf 17).toInt.toNat = 4 from by decide] at h1 h2
    exact pw_17 hN hL h8 h10 hr0 hm ho hi hk hpc hn hp hg ht hu hx h1 h2
  · exact pw_18 hN hL h8 h10 hr0 hm ho hi hk hpc hn hp hg ht hu
  · exact pw_19 hN hL h8 h10 hr0 hm ho hi hk hpc hn hp hg ht hu
  · exact pw_20 hN hL h8 h10 hr0 hm ho hi hk hpc hn hp hg ht hu
  · exact pw_21 hN hL h8 h10 hr0 hm ho hi hk hpc hn hp hg ht hu
  · exact pw_22 hN hL h8 h10 hr0 hm ho hi hk hpc hn hp hg ht hu
  · exact pw_23 hN hL h8 h10 hr0 hm ho hi hk hpc hn hp hg ht hu
  · exact pw_24 hN hL h8 h10 hr0 hm ho hi hk hpc hn hp hg ht hu
  · exact pw_25 hN hL h8 h10 hr0 hm ho hi hk hpc hn hp hg ht hu
  · exact pw_26 hN hL h8 h10 hr0 hm ho hi hk hpc hn hp hg ht hu
  · exact pw_27 hN hL h8 h10 hr0 hm ho hi hk hpc hn hp hg ht hu
  · exact pw_28 hN hL h8 h10 hr0 hm ho hi hk hpc hn hp hg ht hu
  · exact pw_29 hN hL h8 h10 hr0 hm ho hi hk hpc hn hp hg ht hu
  · exact pw_30 hN hL h8 h10 hr0 hm ho hi hk hpc hn hp hg ht hu
  · exact pw_31 hN hL h8 h10 hr0 hm ho hi hk hpc hn hp hg ht hu
  · exact pw_32 hN hL h8 h10 hr0 hm ho hi hk hpc hn hp hg ht hu
  · exact pw_33 hN hL h8 h10 hr0 hm ho hi hk hpc hn hp hg ht hu
  · exact pw_34 hN hL h8 h10 hr0 hm ho hi hk hpc hn hp hg ht hu
  · exact pw_35 hN hL h8 h10 hr0 hm ho hi hk hpc hn hp hg ht hu
  · exact pw_36 hN hL h8 h10 hr0 hm ho hi hk hpc hn hp hg ht hu
  · exact pw_37 hN hL h8 h10 hr0 hm ho hi hk hpc hn hp hg ht hu
  · exact pw_38 hN hL h8 h10 hr0 hm ho hi hk hpc hn hp hg ht hu
  · exact pw_39 hN hL h8 h10 hr0 hm ho hi hk hpc hn hp hg ht hu
  · exact pw_40 hN hL h8 h10 hr0 hm ho hi hk hpc hn hp hg ht hu
  · exact pw_41 hN hL h8 h10 hr0 hm ho hi hk hpc hn hp hg ht hu
  · exact pw_42 hN hL h8 h10 hr0 hm ho hi hk hpc hn hp hg ht hu
  · exact pw_43 hN hL h8 h10 hr0 hm ho hi hk hpc hn hp hg ht hu
  · exact pw_44 hN hL h8 h10 hr0 hm ho hi hk hpc hn hp hg ht hu
  · exact pw_45 hN hL h8 h10 hr0 hm ho hi hk hpc hn hp hg ht hu
  · exact pw_46 hN hL h8 h10 hr0 hm ho hi hk hpc hn hp hg ht hu
  · exact pw_47 hN hL h8 h10 hr0 hm ho hi hk hpc hn hp hg ht hu
