-- numbers without overflow, and the places that the reference reads
theorem ti_add {a b : Int32} (h1 : -2147483648 ≤ a.toInt + b.toInt) (h2 : a.toInt + b.toInt < 2147483648) : (a + b).toInt = a.toInt + b.toInt := by
  rw [Int32.toInt_add]
  exact Int.bmod_eq_of_le (by omega) (by omega)
theorem ti_sub {a b : Int32} (h1 : -2147483648 ≤ a.toInt - b.toInt) (h2 : a.toInt - b.toInt < 2147483648) : (a - b).toInt = a.toInt - b.toInt := by
  rw [Int32.toInt_sub]
  exact Int.bmod_eq_of_le (by omega) (by omega)
theorem ti_mul {a b : Int32} (h1 : -2147483648 ≤ a.toInt * b.toInt) (h2 : a.toInt * b.toInt < 2147483648) : (a * b).toInt = a.toInt * b.toInt := by
  rw [Int32.toInt_mul]
  exact Int.bmod_eq_of_le (by omega) (by omega)
theorem ti_nI {x : Int32} (h : 0 ≤ x.toInt) : x = nI x.toInt.toNat := by
  apply Int32.toInt_inj.mp
  have := Int32.toInt_lt x
  rw [nI_toInt (by omega)]
  omega
theorem ti_lt {x y : Int32} (h : x < y) : x.toInt < y.toInt := Int32.lt_iff_toInt_lt.mp h
theorem ti_le {x y : Int32} (h : x ≤ y) : x.toInt ≤ y.toInt := Int32.le_iff_toInt_le.mp h
theorem ti_in {x : Int32} {N : Nat} (h1 : 0 ≤ x.toInt) (h2 : x.toInt < N) : vp_in x N := vp_in_iff.mpr ⟨h1, h2⟩
theorem st_nn {b k : Int32} (c : ¬ b ≤ k) (hq : 0 ≤ k.toInt) : 0 ≤ (k + 1).toInt := by
  have h1 := ob_nle c
  have h2 := Int32.toInt_lt b
  have e1 : (1 : Int32).toInt = 1 := by decide
  rw [ti_add (by omega) (by omega)]
  omega
theorem ti_32 {x : Int32} (hk : 0 ≤ x.toInt ∧ x.toInt < 75) : (32 * x).toInt = 32 * x.toInt := by
  have e1 : (32 : Int32).toInt = 32 := by decide
  rw [ti_mul (by rw [e1]; omega) (by rw [e1]; omega), e1]
def rowOK (r : Int32) : Bool := decide (r = 0 ∨ r = 1 ∨ (100 ≤ r.toInt ∧ r.toInt < 800))
theorem row_tab : ∀ a, a < 75 → ∀ b, b < 32 → rowOK ((rowLL.getD a []).getD b 0) = true := by decide +kernel
theorem row_ok (j : Nat) : rowOK (rowT j) = true := by
  unfold rowT
  by_cases h : j / 32 < 75
  · exact row_tab _ h _ (Nat.mod_lt _ (by decide))
  · have hl : rowLL.length = 75 := by decide
    have h1 : rowLL.getD (j / 32) [] = [] := by
      rw [List.getD_eq_getElem?_getD, List.getElem?_eq_none (by omega)]
      rfl
    rw [h1]
    rfl
theorem row_rng (j : Nat) : rowT j = 0 ∨ rowT j = 1 ∨ (100 ≤ (rowT j).toInt ∧ (rowT j).toInt < 800) := by
  have h := row_ok j
  simpa [rowOK] using h
theorem div100 {r : Int32} (h : 0 ≤ r.toInt) : r / 100 = nI (r.toInt.toNat / 100) := by
  have h2 := Int32.toInt_lt r
  conv => lhs; rw [ti_nI h]
  exact pk_div (d := 100) (by omega) (by decide) (by decide)
theorem ob_p1 {j : Nat} (h2 : 1 < (rowT j).toInt) (h5 : (rowT j).toInt < 500) : vp_in ((rowT j / 100) - 1) 4 := by
  have hr : 100 ≤ (rowT j).toInt := by
    rcases row_rng j with h | h | h
    · rw [h] at h2; exact absurd h2 (by decide)
    · rw [h] at h2; exact absurd h2 (by decide)
    · exact h.1
  rw [div100 (by omega), show (1 : Int32) = nI 1 from rfl, pk_sub (by omega)]
  exact vp_in_nI (by omega) (by decide)
theorem ob_p5 {j : Nat} (h5 : 500 ≤ (rowT j).toInt) : vp_in ((rowT j / 100) - 5) 4 := by
  have hr : (rowT j).toInt < 800 := by
    rcases row_rng j with h | h | h
    · rw [h] at h5; exact absurd h5 (by decide)
    · rw [h] at h5; exact absurd h5 (by decide)
    · exact h.2
  rw [div100 (by omega), show (5 : Int32) = nI 5 from rfl, pk_sub (by omega)]
  exact vp_in_nI (by omega) (by decide)
theorem e_0 : (0 : Int32).toInt = 0 := by decide
theorem e_1 : (1 : Int32).toInt = 1 := by decide
theorem e_2 : (2 : Int32).toInt = 2 := by decide
theorem e_3 : (3 : Int32).toInt = 3 := by decide
theorem e_4 : (4 : Int32).toInt = 4 := by decide
theorem e_7 : (7 : Int32).toInt = 7 := by decide
theorem e_8 : (8 : Int32).toInt = 8 := by decide
theorem e_32 : (32 : Int32).toInt = 32 := by decide
theorem e_33 : (33 : Int32).toInt = 33 := by decide
theorem e_48 : (48 : Int32).toInt = 48 := by decide
theorem e_75 : (75 : Int32).toInt = 75 := by decide
theorem e_500 : (500 : Int32).toInt = 500 := by decide
theorem e_1000 : (1000 : Int32).toInt = 1000 := by decide
theorem e_2000 : (2000 : Int32).toInt = 2000 := by decide
theorem e_131072 : (131072 : Int32).toInt = 131072 := by decide
theorem p1_put {j : Nat} (h2 : 2 ≤ rowT j) (h5 : ¬ 500 ≤ rowT j) : vp_in ((rowT j / 100) - 1) 4 := ob_p1 (by have := ti_le h2; rw [e_2] at this; omega) (by have := ob_nle h5; rw [e_500] at this; exact this)
theorem p5_put {j : Nat} (h5 : 500 ≤ rowT j) : vp_in ((rowT j / 100) - 5) 4 := ob_p5 (by have := ti_le h5; rw [e_500] at this; exact this)
theorem p1_take {j : Nat} (h2 : ¬ rowT j ≤ 1) (h5 : ¬ 500 ≤ rowT j) : vp_in ((rowT j / 100) - 1) 4 := ob_p1 (by have := ob_nle h2; rw [e_1] at this; exact this) (by have := ob_nle h5; rw [e_500] at this; exact this)
theorem p5_take {j : Nat} (h5 : ¬ rowT j < 500) : vp_in ((rowT j / 100) - 5) 4 := ob_p5 (by have := ob_nlt h5; rw [e_500] at this; exact this)
/-- an index below 8 -/
theorem in_8b {x : Int32} (h1 : ¬ x < 0) (h2 : ¬ 7 < x) : vp_in x 8 := by
  have a1 := ob_nlt h1
  have a2 := ob_nlt h2
  rw [e_0] at a1
  rw [e_7] at a2
  exact ti_in a1 (by omega)
theorem in_k {k b : Int32} {N : Nat} (hq : 0 ≤ k.toInt) (c : ¬ b ≤ k) (hb : b.toInt ≤ N) : vp_in k N := by
  have a := ob_nle c
  exact ti_in hq (by omega)
theorem in_half {x : Int32} (h1 : ¬ x < 0) (h2 : ¬ 131072 ≤ x) : vp_in (x / 2) 65536 := by
  have a1 := ob_nlt h1
  have a2 := ob_nle h2
  rw [e_0] at a1
  rw [e_131072] at a2
  rw [ti_nI a1, show (2 : Int32) = nI 2 from rfl, pk_div (by omega) (by decide) (by decide)]
  exact vp_in_nI (by omega) (by decide)
theorem in_poke {x0 x1 k : Int32} (h1 : ¬ x1 < 1) (h2 : ¬ 8 < x1) (h3 : ¬ x0 < 0) (h4 : x0 ≤ 131072 - x1) (hq : 0 ≤ k.toInt) (c : ¬ x1 ≤ k) : vp_in (x0 + k) 131072 := by
  have a1 := ob_nlt h1
  have a2 := ob_nlt h2
  have a3 := ob_nlt h3
  have a4 := ti_le h4
  have a5 := ob_nle c
  rw [e_1] at a1
  rw [e_8] at a2
  rw [e_0] at a3
  rw [ti_sub (by rw [e_131072]; omega) (by rw [e_131072]; omega), e_131072] at a4
  exact ti_in (by rw [ti_add (by omega) (by omega)]; omega) (by rw [ti_add (by omega) (by omega)]; omega)
theorem in_mem {x0 : Int32} (h3 : ¬ x0 < 0) (h4 : ¬ 131072 ≤ x0) : vp_in x0 131072 := by
  have a3 := ob_nlt h3
  have a4 := ob_nle h4
  rw [e_0] at a3
  rw [e_131072] at a4
  exact ti_in a3 a4
theorem in_out {k b : Int32} (h1 : ¬ k < 0) (c : ¬ b ≤ k) (hb : b.toInt ≤ 2000) : vp_in k 2000 := by
  have a := ob_nlt h1
  rw [e_0] at a
  exact in_k a c hb
/-- the memory from x0 on has x1 bytes -/
def inM (x0 x1 : Int32) : Prop := 0 ≤ x0.toInt ∧ x0.toInt + x1.toInt ≤ 131072
theorem in_fet {x0 x1 k : Int32} (h : inM x0 x1) (hq : 0 ≤ k.toInt) (c : ¬ x1 ≤ k) : vp_in (x0 + k) 131072 := by
  have a5 := ob_nle c
  obtain ⟨h1, h2⟩ := h
  exact ti_in (by rw [ti_add (by omega) (by omega)]; omega) (by rw [ti_add (by omega) (by omega)]; omega)
theorem in_kn {x c : Int32} (h : 0 ≤ x.toInt ∧ x.toInt ≤ 99) (hc : 0 ≤ c.toInt ∧ c.toInt ≤ 12) : vp_in ((13 * x) + c) 1300 := by
  have e : (13 : Int32).toInt = 13 := by decide
  have m : (13 * x).toInt = 13 * x.toInt := by rw [ti_mul (by rw [e]; omega) (by rw [e]; omega), e]
  exact ti_in (by rw [ti_add (by omega) (by omega)]; omega) (by rw [ti_add (by omega) (by omega)]; omega)
theorem in_kn0 {x : Int32} (h : 0 ≤ x.toInt ∧ x.toInt ≤ 99) : vp_in (13 * x) 1300 := by
  have e : (13 : Int32).toInt = 13 := by decide
  have m : (13 * x).toInt = 13 * x.toInt := by rw [ti_mul (by rw [e]; omega) (by rw [e]; omega), e]
  exact ti_in (by omega) (by omega)
/-- the number before, of a hundred in a ring -/
def prevK (x : Int32) : Int32 := ((x + 100) - 1) - ((x + 100) - 1) / 100 * 100
theorem prevK_rng {x : Int32} (h : 0 ≤ x.toInt ∧ x.toInt ≤ 99) : 0 ≤ (prevK x).toInt ∧ (prevK x).toInt ≤ 99 := by
  unfold prevK
  rw [ti_nI h.1, show (100 : Int32) = nI 100 from rfl, nI_add, show (1 : Int32) = nI 1 from rfl, pk_sub (by omega), pk_rem (by omega) (by decide) (by decide), nI_toInt (by omega)]
  omega
theorem in_lat {x c : Int32} (h : 0 ≤ x.toInt ∧ x.toInt ≤ 99) (hc : 0 ≤ c.toInt ∧ c.toInt ≤ 12) : vp_in ((13 * prevK x) + c) 1300 := in_kn (prevK_rng h) hc
theorem in_lat0 {x : Int32} (h : 0 ≤ x.toInt ∧ x.toInt ≤ 99) : vp_in (13 * prevK x) 1300 := in_kn0 (prevK_rng h)
theorem in_33 {x : Int32} (h1 : ¬ x < 1) (h2 : x < 32) : vp_in x 32 := by
  have a1 := ob_nlt h1
  have a2 := ti_lt h2
  rw [e_1] at a1
  rw [e_32] at a2
  exact ti_in (by omega) a2
theorem in_get {x : Int32} (h1 : ¬ x ≤ 0) (h2 : ¬ 32 ≤ x) : vp_in x 32 := by
  have a1 := ob_nle h1
  have a2 := ob_nle h2
  rw [e_0] at a1
  rw [e_32] at a2
  exact ti_in (by omega) a2
theorem in_pt {x : Int32} (h : 0 ≤ x.toInt ∧ x.toInt < 32) : vp_in x 32 := ti_in h.1 h.2
theorem in_mrk {x : Int64} (h1 : ¬ lg_cmp x 0 < 0) (h2 : ¬ 0 ≤ lg_cmp x 131072) : vp_in (x.toInt32 / 2) 65536 := by
  have a1 : ¬ x < 0 := fun q => h1 ((lg_cmp_lt x 0).mpr q)
  have a2 : ¬ 131072 ≤ x := fun q => h2 ((lg_cmp_ge x 131072).mpr q)
  have b1 := Int.not_lt.mp (fun q => a1 (Int64.lt_iff_toInt_lt.mpr q))
  have b2 := Int.not_le.mp (fun q => a2 (Int64.le_iff_toInt_le.mpr q))
  have f1 : (0 : Int64).toInt = 0 := by decide
  have f2 : (131072 : Int64).toInt = 131072 := by decide
  rw [f1] at b1
  rw [f2] at b2
  have e : x.toInt32.toInt = x.toInt := by
    rw [Int64.toInt_toInt32]
    exact Int.bmod_eq_of_le (by omega) (by omega)
  rw [ti_nI (x := x.toInt32) (by omega), show (2 : Int32) = nI 2 from rfl, pk_div (by omega) (by decide) (by decide)]
  exact vp_in_nI (by omega) (by decide)
theorem bare_bv (x : Int32) : (x.toInt64 &&& 4294967295).toBitVec = x.toBitVec.setWidth 64 := by
  have h : (4294967295 : Int64).toBitVec = BitVec.setWidth 64 (BitVec.allOnes 32) := by decide
  rw [Int64.toBitVec_and, h, Int32.toBitVec_toInt64]
  apply BitVec.eq_of_getLsbD_eq
  intro i hi
  simp only [BitVec.getLsbD_and, BitVec.getLsbD_signExtend, BitVec.getLsbD_setWidth, BitVec.getLsbD_allOnes]
  by_cases h32 : i < 32
  · simp [h32, hi]
  · simp [h32, hi, BitVec.getLsbD_of_ge x.toBitVec i (by omega)]
theorem bare_toInt (x : Int32) : (x.toInt64 &&& 4294967295).toInt = (x.toBitVec.toNat : Int) := by
  have h1 : (x.toInt64 &&& 4294967295).toInt = (x.toInt64 &&& 4294967295).toBitVec.toInt := rfl
  have h2 := x.toBitVec.isLt
  rw [h1, bare_bv, BitVec.toInt_eq_toNat_of_lt (by rw [BitVec.toNat_setWidth]; omega), BitVec.toNat_setWidth, Nat.mod_eq_of_lt (by omega)]
theorem ti_nat (x : Int32) : x.toInt = (x.toBitVec.toNat : Int) ∨ x.toInt = (x.toBitVec.toNat : Int) - 4294967296 := by
  have h1 : x.toInt = x.toBitVec.toInt := rfl
  rw [h1, BitVec.toInt_eq_toNat_cond]
  split
  · exact Or.inl rfl
  · exact Or.inr rfl
theorem bare_ne0 {x : Int32} (h : ¬ x = 0) : ¬ (x.toInt64 &&& 4294967295) = 0 := by
  intro q
  have h1 := bare_toInt x
  rw [q, show (0 : Int64).toInt = 0 from by decide] at h1
  apply h
  apply Int32.toInt_inj.mp
  rw [e_0]
  have h2 := x.toBitVec.isLt
  rcases ti_nat x with h3 | h3
  · omega
  · have := Int32.le_toInt x
    omega
