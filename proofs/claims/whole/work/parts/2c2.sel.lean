-- words by their bits: which bit of w stands at each place of x (64: a bit that is set, 99: one that is not)
def gb (w : Int32) (s : Nat) : Bool := if s = 64 then true else w.toBitVec.getLsbD s
def IsSel (σ : Nat → Nat) (w x : Int32) : Prop := ∀ i, i < 32 → x.toBitVec.getLsbD i = gb w (σ i)
theorem gb_99 (w : Int32) : gb w 99 = false := by
  unfold gb
  rw [if_neg (by decide)]
  exact BitVec.getLsbD_of_ge _ _ (by decide)
theorem gb_64 (w : Int32) : gb w 64 = true := rfl
theorem gb_lt {w : Int32} {i : Nat} (h : i < 32) : gb w i = w.toBitVec.getLsbD i := by
  unfold gb
  rw [if_neg (by omega)]
theorem sel_self (w : Int32) : IsSel (fun i => i) w w := fun i hi => (gb_lt hi).symm
theorem sel_const (w c : Int32) : IsSel (fun i => if c.toBitVec.getLsbD i then 64 else 99) w c := fun i hi => by
  cases h : c.toBitVec.getLsbD i
  · simp only [h, gb_99, if_neg Bool.false_ne_true]
  · simp only [h, gb_64, if_pos]
theorem sel_and {σ : Nat → Nat} {w x : Int32} (c : Int32) (h : IsSel σ w x) : IsSel (fun i => if c.toBitVec.getLsbD i then σ i else 99) w (x &&& c) := fun i hi => by
  rw [Int32.toBitVec_and, BitVec.getLsbD_and, h i hi]
  cases e : c.toBitVec.getLsbD i
  · simp only [e, gb_99, if_neg Bool.false_ne_true, Bool.and_false]
  · simp only [e, if_pos, Bool.and_true]
theorem sel_or {σ τ : Nat → Nat} {w x y : Int32} (h : IsSel σ w x) (g : IsSel τ w y) (d : ∀ i, i < 32 → σ i = 99 ∨ τ i = 99) : IsSel (fun i => if σ i = 99 then τ i else σ i) w (x ||| y) := fun i hi => by
  rw [Int32.toBitVec_or, BitVec.getLsbD_or, h i hi, g i hi]
  by_cases e : σ i = 99
  · simp [e, gb_99]
  · rcases d i hi with e' | e'
    · exact absurd e' e
    · simp [e, e', gb_99]
theorem sel_add {σ τ : Nat → Nat} {w x y : Int32} (h : IsSel σ w x) (g : IsSel τ w y) (d : ∀ i, i < 32 → σ i = 99 ∨ τ i = 99) : IsSel (fun i => if σ i = 99 then τ i else σ i) w (x + y) := by
  have e : x + y = x ||| y := by
    apply Int32.toBitVec_inj.mp
    rw [Int32.toBitVec_add, Int32.toBitVec_or]
    apply BitVec.add_eq_or_of_and_eq_zero
    apply BitVec.eq_of_getLsbD_eq
    intro i hi
    rw [BitVec.getLsbD_and, h i hi, g i hi]
    rcases d i hi with e | e <;> simp [e, gb_99]
  rw [e]
  exact sel_or h g d
theorem sel_shl {σ : Nat → Nat} {w x b : Int32} (n : Nat) (hb : (b.toBitVec.smod 32).toNat = n) (h : IsSel σ w x) : IsSel (fun i => if i < n then 99 else σ (i - n)) w (x <<< b) := fun i hi => by
  rw [Int32.toBitVec_shiftLeft, BitVec.getLsbD_shiftLeft', hb]
  by_cases e : i < n
  · simp [e, gb_99]
  · simp [e, hi, h (i - n) (by omega)]
theorem sel_sar {σ : Nat → Nat} {w x b : Int32} (n : Nat) (hb : (b.toBitVec.smod 32).toNat = n) (h : IsSel σ w x) : IsSel (fun i => if n + i < 32 then σ (n + i) else σ 31) w (x >>> b) := fun i hi => by
  rw [Int32.toBitVec_shiftRight, BitVec.getLsbD_sshiftRight', hb, BitVec.msb_eq_getLsbD_last]
  by_cases e : n + i < 32
  · rw [if_pos e, h (n + i) e]
    simp only [e, if_pos, decide_eq_false (show ¬ 32 ≤ i by omega), Bool.not_false, Bool.true_and]
  · rw [if_neg e, show 32 - 1 = 31 from rfl, h 31 (by omega)]
    simp only [e, if_neg, decide_eq_false (show ¬ 32 ≤ i by omega), Bool.not_false, Bool.true_and, if_false]
theorem sel_ushr {σ : Nat → Nat} {w x b : Int32} (n : Nat) (hb : (b.toBitVec &&& 31#32).toNat % 32 = n) (h : IsSel σ w x) : IsSel (fun i => if n + i < 32 then σ (n + i) else 99) w (j_ushr x b) := fun i hi => by
  have e0 : (j_ushr x b).toBitVec = x.toBitVec >>> ((b.toBitVec &&& 31#32) % 32#32) := rfl
  rw [e0, BitVec.ushiftRight_eq', BitVec.getLsbD_ushiftRight, BitVec.toNat_umod, show (32#32 : BitVec 32).toNat = 32 from rfl, hb]
  by_cases e : n + i < 32
  · simp only [e, if_pos, h (n + i) e]
  · simp only [e, if_false, gb_99]
    exact BitVec.getLsbD_of_ge _ _ (by omega)
theorem sel_eq {σ τ : Nat → Nat} {w x y : Int32} (h : IsSel σ w x) (g : IsSel τ w y) (d : ∀ i, i < 32 → σ i = τ i) : x = y := by
  apply Int32.toBitVec_inj.mp
  apply BitVec.eq_of_getLsbD_eq
  intro i hi
  rw [h i hi, g i hi, d i hi]
theorem sel_of {σ τ : Nat → Nat} {w x : Int32} (h : IsSel σ w x) (d : ∀ i, i < 32 → σ i = τ i) : IsSel τ w x := fun i hi => by
  rw [h i hi, d i hi]
/-- a word whose bits are bits of a word whose bits are bits of w -/
theorem sel_trans {σ τ : Nat → Nat} {w x y : Int32} (h : IsSel σ w x) (g : IsSel τ x y) : IsSel (fun i => if τ i < 32 then σ (τ i) else if τ i = 64 then 64 else 99) w y := fun i hi => by
  rw [g i hi]
  by_cases e : τ i < 32
  · simp only [e, if_true]
    rw [gb_lt e, h _ e]
  · simp only [e, if_false]
    by_cases e2 : τ i = 64
    · simp only [e2, if_true, gb_64]
    · simp only [e2, if_false, gb_99]
      unfold gb
      rw [if_neg e2]
      exact BitVec.getLsbD_of_ge _ _ (by omega)
theorem sel_val {σ : Nat → Nat} {w x c : Int32} (h : IsSel σ w x) (d : ∀ i, i < 32 → gb w (σ i) = c.toBitVec.getLsbD i) : x = c := by
  apply Int32.toBitVec_inj.mp
  apply BitVec.eq_of_getLsbD_eq
  intro i hi
  rw [h i hi, d i hi]
/-- how large a word is whose high bits are not set -/
theorem sel_low {σ : Nat → Nat} {w x : Int32} (n : Nat) (hn : n < 32) (h : IsSel σ w x) (d : ∀ i, i < 32 → n ≤ i → σ i = 99) : 0 ≤ x.toInt ∧ x.toInt < 2 ^ n := by
  have h1 : x.toBitVec.toNat < 2 ^ n := by
    apply Nat.lt_pow_two_of_testBit
    intro i hi
    by_cases e : i < 32
    · have := h i e
      rw [d i e hi, gb_99] at this
      exact this
    · exact Nat.testBit_lt_two_pow (Nat.lt_of_lt_of_le x.toBitVec.isLt (Nat.pow_le_pow_right (by decide) (by omega)))
  have h2 : (2 : Nat) ^ n ≤ 2 ^ 31 := Nat.pow_le_pow_right (by decide) (by omega)
  have h3 : x.toInt = (x.toBitVec.toNat : Int) := by
    show x.toBitVec.toInt = _
    rw [BitVec.toInt_eq_toNat_cond, if_pos (by omega)]
  have h4 : ((2 : Nat) ^ n : Int) = (2 : Int) ^ n := by norm_cast
  omega
/-- where the sign stands in all high places -/
theorem sel_sgn {σ : Nat → Nat} {w x : Int32} (n : Nat) (hn : n < 32) (h : IsSel σ w x) (d : ∀ i, i < 32 → n ≤ i → σ i = σ n) : -(2 : Int) ^ n ≤ x.toInt ∧ x.toInt < 2 ^ n := by
  have h0 : ∀ i, i < 32 → n ≤ i → x.toBitVec.getLsbD i = x.toBitVec.getLsbD n := fun i hi hni => by
    rw [h i hi, d i hi hni, h n hn]
  have h4 : ((2 : Nat) ^ n : Int) = (2 : Int) ^ n := by norm_cast
  have h2 : (2 : Nat) ^ n ≤ 2 ^ 31 := Nat.pow_le_pow_right (by decide) (by omega)
  have hT : x.toInt = x.toBitVec.toInt := rfl
  cases e : x.toBitVec.getLsbD n
  · have h1 : x.toBitVec.toNat < 2 ^ n := by
      apply Nat.lt_pow_two_of_testBit
      intro i hi
      by_cases e2 : i < 32
      · have := h0 i e2 hi
        rw [e] at this
        exact this
      · exact Nat.testBit_lt_two_pow (Nat.lt_of_lt_of_le x.toBitVec.isLt (Nat.pow_le_pow_right (by decide) (by omega)))
    rw [hT, BitVec.toInt_eq_toNat_cond, if_pos (by omega)]
    omega
  · have h1 : (~~~ x.toBitVec).toNat < 2 ^ n := by
      apply Nat.lt_pow_two_of_testBit
      intro i hi
      by_cases e2 : i < 32
      · have h5 := h0 i e2 hi
        rw [e] at h5
        have h6 : (~~~ x.toBitVec).getLsbD i = false := by
          rw [BitVec.getLsbD_not, h5]
          simp
        exact h6
      · exact Nat.testBit_lt_two_pow (Nat.lt_of_lt_of_le (~~~ x.toBitVec).isLt (Nat.pow_le_pow_right (by decide) (by omega)))
    rw [BitVec.toNat_not] at h1
    have h7 := x.toBitVec.isLt
    rw [hT, BitVec.toInt_eq_toNat_cond, if_neg (by omega)]
    omega
/-- a word whose low bits are not set is a multiple -/
theorem sel_mul {σ : Nat → Nat} {w x : Int32} (n : Nat) (hn : n < 32) (h : IsSel σ w x) (d : ∀ i, i < n → σ i = 99) : x.toInt % 2 ^ n = 0 := by
  have h1 : x.toBitVec.toNat % 2 ^ n = 0 := by
    apply Nat.eq_of_testBit_eq
    intro i
    rw [Nat.testBit_mod_two_pow, Nat.zero_testBit]
    by_cases e : i < n
    · have := h i (by omega)
      rw [d i e, gb_99] at this
      have h6 : x.toBitVec.toNat.testBit i = false := this
      rw [h6]
      simp
    · simp [e]
  have h4 : ((2 : Nat) ^ n : Int) = (2 : Int) ^ n := by norm_cast
  have hT : x.toInt = x.toBitVec.toInt := rfl
  rw [hT, BitVec.toInt_eq_toNat_cond]
  have h8 : ((x.toBitVec.toNat : Int)) % 2 ^ n = 0 := by
    rw [← h4]
    exact_mod_cast h1
  split
  · exact h8
  · have h9 : (((2 : Nat) ^ 32 : Nat) : Int) = 2 ^ n * 2 ^ (32 - n) := by
      rw [← Int.pow_add, show n + (32 - n) = 32 by omega]
      norm_cast
    rw [h9, Int.sub_emod, h8, Int.mul_emod_right]
    simp
