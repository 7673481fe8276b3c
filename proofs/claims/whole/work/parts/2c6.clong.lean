def chk (k s : Nat) (b : Bool) : Bool := if s = 64 then b else if s < 32 then decide (s < bN k) && decide (rN k s < 2) && (b == decide (rN k s = 1)) else !b
theorem mt_val {k : Nat} {w x c : Int32} {σ : Nat → Nat} (hm : MTf k w 0) (h : IsSel σ w x) (d : ∀ i, i < 32 → chk k (σ i) (c.toBitVec.getLsbD i) = true) : x = c := by
  refine sel_val h fun i hi => ?_
  have g := d i hi
  unfold chk at g
  by_cases e : σ i = 64
  · rw [if_pos e] at g
    rw [e, gb_64, g]
  · rw [if_neg e] at g
    by_cases e2 : σ i < 32
    · rw [if_pos e2] at g
      simp only [Bool.and_eq_true, decide_eq_true_eq, beq_iff_eq] at g
      rw [gb_lt e2, hm (σ i) (Nat.zero_le _) g.1.1 g.1.2, g.2]
    · rw [if_neg e2] at g
      unfold gb
      rw [if_neg e, BitVec.getLsbD_of_ge _ _ (by omega)]
      cases h : c.toBitVec.getLsbD i
      · rfl
      · rw [h] at g; exact absurd g (by decide)
def cov (k : Nat) (σ : Nat → Nat) (c : Int32) (j : Nat) : Bool := (List.range 32).any fun i => decide (σ i = j) && (c.toBitVec.getLsbD i == decide (rN k j = 1))
theorem cov_of {k j : Nat} {w x c : Int32} {σ : Nat → Nat} (h : IsSel σ w x) (e : x = c) (hj : j < 32) (hc : cov k σ c j = true) : w.toBitVec.getLsbD j = decide (rN k j = 1) := by
  subst e
  unfold cov at hc
  obtain ⟨i, h1, h2⟩ := List.any_eq_true.mp hc
  have hi := List.mem_range.mp h1
  simp only [Bool.and_eq_true, decide_eq_true_eq, beq_iff_eq] at h2
  rw [← h2.2, h i hi, h2.1, gb_lt hj]
theorem mt_of1 {k : Nat} {w x1 c1 : Int32} {σ1 : Nat → Nat} (h1 : IsSel σ1 w x1) (e1 : x1 = c1) (d : ∀ j, j < 32 → j < bN k → rN k j < 2 → cov k σ1 c1 j = true) : MTf k w 0 := fun j _ h3 h4 => by
  have hb := bN_le k
  exact cov_of h1 e1 (by omega) (d j (by omega) h3 h4)
theorem mt_of2 {k : Nat} {w x1 c1 x2 c2 : Int32} {σ1 σ2 : Nat → Nat} (h1 : IsSel σ1 w x1) (e1 : x1 = c1) (h2 : IsSel σ2 w x2) (e2 : x2 = c2) (d : ∀ j, j < 32 → j < bN k → rN k j < 2 → (cov k σ1 c1 j || cov k σ2 c2 j) = true) : MTf k w 0 := fun j _ h3 h4 => by
  have hb := bN_le k
  have hj : j < 32 := by omega
  rcases Bool.or_eq_true_iff.mp (d j hj h3 h4) with g | g
  · exact cov_of h1 e1 hj g
  · exact cov_of h2 e2 hj g
theorem mt_of3 {k : Nat} {w x1 c1 x2 c2 x3 c3 : Int32} {σ1 σ2 σ3 : Nat → Nat} (h1 : IsSel σ1 w x1) (e1 : x1 = c1) (h2 : IsSel σ2 w x2) (e2 : x2 = c2) (h3 : IsSel σ3 w x3) (e3 : x3 = c3) (d : ∀ j, j < 32 → j < bN k → rN k j < 2 → ((cov k σ1 c1 j || cov k σ2 c2 j) || cov k σ3 c3 j) = true) : MTf k w 0 := fun j _ h4 h5 => by
  have hb := bN_le k
  have hj : j < 32 := by omega
  rcases Bool.or_eq_true_iff.mp (d j hj h4 h5) with g | g
  · rcases Bool.or_eq_true_iff.mp g with g | g
    · exact cov_of h1 e1 hj g
    · exact cov_of h2 e2 hj g
  · exact cov_of h3 e3 hj g
theorem f3_cases (x : Int32) : (x &&& 7) = 0 ∨ (x &&& 7) = 1 ∨ (x &&& 7) = 2 ∨ (x &&& 7) = 3 ∨ (x &&& 7) = 4 ∨ (x &&& 7) = 5 ∨ (x &&& 7) = 6 ∨ (x &&& 7) = 7 := by
  have h := sel_low 3 (by decide) (sel_and 7 (sel_self x)) (by decide)
  have e : (x &&& 7) = nI (x &&& 7).toInt.toNat := ti_nI h.1
  rcases (show (x &&& 7).toInt.toNat = 0 ∨ (x &&& 7).toInt.toNat = 1 ∨ (x &&& 7).toInt.toNat = 2 ∨ (x &&& 7).toInt.toNat = 3 ∨ (x &&& 7).toInt.toNat = 4 ∨ (x &&& 7).toInt.toNat = 5 ∨ (x &&& 7).toInt.toNat = 6 ∨ (x &&& 7).toInt.toNat = 7 by omega) with g | g | g | g | g | g | g | g <;> (rw [g] at e; simp only [e]; decide)
def xOp (w : Int32) : Int32 := w &&& 127
def xF3 (w : Int32) : Int32 := (j_ushr w 12) &&& 7
def xF7 (w : Int32) : Int32 := j_ushr w 25
def xD (w : Int32) : Int32 := (j_ushr w 7) &&& 31
def xA (w : Int32) : Int32 := (j_ushr w 15) &&& 31
def xB (w : Int32) : Int32 := (j_ushr w 20) &&& 31
def xI (w : Int32) : Int32 := w >>> ((20 : Int32) &&& 31)
def xU (w : Int32) : Int32 := j_ushr w 12

def g_op (i : Nat) : Nat := [0, 1, 2, 3, 4, 5, 6, 99, 99, 99, 99, 99, 99, 99, 99, 99, 99, 99, 99, 99, 99, 99, 99, 99, 99, 99, 99, 99, 99, 99, 99, 99].getD i 99
theorem s_op (w : Int32) : IsSel g_op w (xOp w) := sel_of (sel_and 127 (sel_self w)) (by decide +kernel)
def g_f3 (i : Nat) : Nat := [12, 13, 14, 99, 99, 99, 99, 99, 99, 99, 99, 99, 99, 99, 99, 99, 99, 99, 99, 99, 99, 99, 99, 99, 99, 99, 99, 99, 99, 99, 99, 99].getD i 99
theorem s_f3 (w : Int32) : IsSel g_f3 w (xF3 w) := sel_of (sel_and 7 (sel_ushr 12 (by decide) (sel_self w))) (by decide +kernel)
def g_f7 (i : Nat) : Nat := [25, 26, 27, 28, 29, 30, 31, 99, 99, 99, 99, 99, 99, 99, 99, 99, 99, 99, 99, 99, 99, 99, 99, 99, 99, 99, 99, 99, 99, 99, 99, 99].getD i 99
theorem s_f7 (w : Int32) : IsSel g_f7 w (xF7 w) := sel_of (sel_ushr 25 (by decide) (sel_self w)) (by decide +kernel)
def g_d (i : Nat) : Nat := [7, 8, 9, 10, 11, 99, 99, 99, 99, 99, 99, 99, 99, 99, 99, 99, 99, 99, 99, 99, 99, 99, 99, 99, 99, 99, 99, 99, 99, 99, 99, 99].getD i 99
theorem s_d (w : Int32) : IsSel g_d w (xD w) := sel_of (sel_and 31 (sel_ushr 7 (by decide) (sel_self w))) (by decide +kernel)
def g_a (i : Nat) : Nat := [15, 16, 17, 18, 19, 99, 99, 99, 99, 99, 99, 99, 99, 99, 99, 99, 99, 99, 99, 99, 99, 99, 99, 99, 99, 99, 99, 99, 99, 99, 99, 99].getD i 99
theorem s_a (w : Int32) : IsSel g_a w (xA w) := sel_of (sel_and 31 (sel_ushr 15 (by decide) (sel_self w))) (by decide +kernel)
def g_b (i : Nat) : Nat := [20, 21, 22, 23, 24, 99, 99, 99, 99, 99, 99, 99, 99, 99, 99, 99, 99, 99, 99, 99, 99, 99, 99, 99, 99, 99, 99, 99, 99, 99, 99, 99].getD i 99
theorem s_b (w : Int32) : IsSel g_b w (xB w) := sel_of (sel_and 31 (sel_ushr 20 (by decide) (sel_self w))) (by decide +kernel)
def g_i (i : Nat) : Nat := [20, 21, 22, 23, 24, 25, 26, 27, 28, 29, 30, 31, 31, 31, 31, 31, 31, 31, 31, 31, 31, 31, 31, 31, 31, 31, 31, 31, 31, 31, 31, 31].getD i 99
theorem s_i (w : Int32) : IsSel g_i w (xI w) := sel_of (sel_sar 20 (by decide) (sel_self w)) (by decide +kernel)
def g_u (i : Nat) : Nat := [12, 13, 14, 15, 16, 17, 18, 19, 20, 21, 22, 23, 24, 25, 26, 27, 28, 29, 30, 31, 99, 99, 99, 99, 99, 99, 99, 99, 99, 99, 99, 99].getD i 99
theorem s_u (w : Int32) : IsSel g_u w (xU w) := sel_of (sel_ushr 12 (by decide) (sel_self w)) (by decide +kernel)
def g_ij (i : Nat) : Nat := [99, 21, 22, 23, 24, 25, 26, 27, 28, 29, 30, 20, 12, 13, 14, 15, 16, 17, 18, 19, 31, 31, 31, 31, 31, 31, 31, 31, 31, 31, 31, 31].getD i 99
theorem s_ij (w : Int32) : IsSel g_ij w (cF_LongForm_immediateOfJump w) := sel_of ((sel_sar 11 (by decide) (sel_shl 11 (by decide) (sel_or (sel_or (sel_or (sel_shl 20 (by decide) (sel_and _ (sel_ushr 31 (by decide) (sel_self w)))) (sel_shl 1 (by decide) (sel_and _ (sel_ushr 21 (by decide) (sel_self w)))) (by decide +kernel)) (sel_shl 11 (by decide) (sel_and _ (sel_ushr 20 (by decide) (sel_self w)))) (by decide +kernel)) (sel_shl 12 (by decide) (sel_and _ (sel_ushr 12 (by decide) (sel_self w)))) (by decide +kernel))))) (by decide +kernel)
def g_ib (i : Nat) : Nat := [99, 8, 9, 10, 11, 25, 26, 27, 28, 29, 30, 7, 31, 31, 31, 31, 31, 31, 31, 31, 31, 31, 31, 31, 31, 31, 31, 31, 31, 31, 31, 31].getD i 99
theorem s_ib (w : Int32) : IsSel g_ib w (cF_LongForm_immediateOfBranch w) := sel_of ((sel_sar 19 (by decide) (sel_shl 19 (by decide) (sel_or (sel_or (sel_or (sel_shl 12 (by decide) (sel_and _ (sel_ushr 31 (by decide) (sel_self w)))) (sel_shl 5 (by decide) (sel_and _ (sel_ushr 25 (by decide) (sel_self w)))) (by decide +kernel)) (sel_shl 1 (by decide) (sel_and _ (sel_ushr 8 (by decide) (sel_self w)))) (by decide +kernel)) (sel_shl 11 (by decide) (sel_and _ (sel_ushr 7 (by decide) (sel_self w)))) (by decide +kernel))))) (by decide +kernel)
def g_is (i : Nat) : Nat := [7, 8, 9, 10, 11, 25, 26, 27, 28, 29, 30, 31, 31, 31, 31, 31, 31, 31, 31, 31, 31, 31, 31, 31, 31, 31, 31, 31, 31, 31, 31, 31].getD i 99
theorem s_is (w : Int32) : IsSel g_is w (cF_LongForm_immediateOfStore w) := sel_of ((sel_sar 20 (by decide) (sel_shl 20 (by decide) (sel_or (sel_shl 5 (by decide) (sel_and _ (sel_ushr 25 (by decide) (sel_self w)))) (sel_shl 0 (by decide) (sel_and _ (sel_ushr 7 (by decide) (sel_self w)))) (by decide +kernel))))) (by decide +kernel)
theorem rd_3 {w : Int32} (h : xOp w = 3) : cF_LongForm_read w = (4, cF_LongForm_kindIn 1 (xF3 w), xD w, xA w, 0, xI w) := by
  unfold xOp at h
  rw [cF_LongForm_read, cF_LongForm_read_1, if_pos h]
  rfl
theorem rd_23 {w : Int32} (h : xOp w = 23) : cF_LongForm_read w = (4, 1, xD w, 0, 0, xU w) := by
  unfold xOp at h
  rw [cF_LongForm_read, cF_LongForm_read_1, if_neg (show ¬ w &&& 127 = 3 by rw [h]; decide), if_neg (show ¬ w &&& 127 = 19 by rw [h]; decide), if_pos h]
  rfl
theorem rd_35 {w : Int32} (h : xOp w = 35) : cF_LongForm_read w = (4, cF_LongForm_kindIn 2 (xF3 w), 0, xA w, xB w, cF_LongForm_immediateOfStore w) := by
  unfold xOp at h
  rw [cF_LongForm_read, cF_LongForm_read_1, if_neg (show ¬ w &&& 127 = 3 by rw [h]; decide), if_neg (show ¬ w &&& 127 = 19 by rw [h]; decide), if_neg (show ¬ w &&& 127 = 23 by rw [h]; decide), if_pos h]
  rfl
theorem rd_51 {w : Int32} (h : xOp w = 51) : cF_LongForm_read w = (4, cF_LongForm_kindOfPair (xF3 w) (xF7 w), xD w, xA w, xB w, 0) := by
  unfold xOp at h
  rw [cF_LongForm_read, cF_LongForm_read_1, if_neg (show ¬ w &&& 127 = 3 by rw [h]; decide), if_neg (show ¬ w &&& 127 = 19 by rw [h]; decide), if_neg (show ¬ w &&& 127 = 23 by rw [h]; decide), if_neg (show ¬ w &&& 127 = 35 by rw [h]; decide), if_pos h]
  rfl
theorem rd_55 {w : Int32} (h : xOp w = 55) : cF_LongForm_read w = (4, 0, xD w, 0, 0, xU w) := by
  unfold xOp at h
  rw [cF_LongForm_read, cF_LongForm_read_1, if_neg (show ¬ w &&& 127 = 3 by rw [h]; decide), if_neg (show ¬ w &&& 127 = 19 by rw [h]; decide), if_neg (show ¬ w &&& 127 = 23 by rw [h]; decide), if_neg (show ¬ w &&& 127 = 35 by rw [h]; decide), if_neg (show ¬ w &&& 127 = 51 by rw [h]; decide), if_pos h]
  rfl
theorem rd_99 {w : Int32} (h : xOp w = 99) : cF_LongForm_read w = (4, cF_LongForm_kindIn 0 (xF3 w), 0, xA w, xB w, cF_LongForm_immediateOfBranch w) := by
  unfold xOp at h
  rw [cF_LongForm_read, cF_LongForm_read_1, if_neg (show ¬ w &&& 127 = 3 by rw [h]; decide), if_neg (show ¬ w &&& 127 = 19 by rw [h]; decide), if_neg (show ¬ w &&& 127 = 23 by rw [h]; decide), if_neg (show ¬ w &&& 127 = 35 by rw [h]; decide), if_neg (show ¬ w &&& 127 = 51 by rw [h]; decide), if_neg (show ¬ w &&& 127 = 55 by rw [h]; decide), if_pos h]
  rfl
theorem rd_111 {w : Int32} (h : xOp w = 111) : cF_LongForm_read w = (4, 2, xD w, 0, 0, cF_LongForm_immediateOfJump w) := by
  unfold xOp at h
  rw [cF_LongForm_read, cF_LongForm_read_1, if_neg (show ¬ w &&& 127 = 3 by rw [h]; decide), if_neg (show ¬ w &&& 127 = 19 by rw [h]; decide), if_neg (show ¬ w &&& 127 = 23 by rw [h]; decide), if_neg (show ¬ w &&& 127 = 35 by rw [h]; decide), if_neg (show ¬ w &&& 127 = 51 by rw [h]; decide), if_neg (show ¬ w &&& 127 = 55 by rw [h]; decide), if_neg (show ¬ w &&& 127 = 99 by rw [h]; decide), if_neg (show ¬ w &&& 127 = 103 by rw [h]; decide), if_pos h]
  rfl
theorem rd_19 {w : Int32} (h : xOp w = 19) : cF_LongForm_read w = (4, cF_LongForm_readImmediate w) := by
  unfold xOp at h
  rw [cF_LongForm_read, cF_LongForm_read_1, if_neg (show ¬ w &&& 127 = 3 by rw [h]; decide), if_pos h]
  rfl
theorem rd_19a {w : Int32} (h : xOp w = 19) (g : xF3 w = 1 ∨ xF3 w = 5) : cF_LongForm_read w = (4, cF_LongForm_kindOfShift (xF3 w) (xF7 w), xD w, xA w, 0, xB w) := by
  rw [rd_19 h, cF_LongForm_readImmediate]
  by_cases e : (j_ushr w 12) &&& 7 = 1
  · rw [if_pos e]; rfl
  · rw [if_neg e, if_pos (show (j_ushr w 12) &&& 7 = 5 from g.resolve_left e)]; rfl
theorem rd_19b {w : Int32} (h : xOp w = 19) (g1 : ¬ xF3 w = 1) (g5 : ¬ xF3 w = 5) : cF_LongForm_read w = (4, cF_LongForm_kindIn 3 (xF3 w), xD w, xA w, 0, xI w) := by
  unfold xF3 at g1 g5
  rw [rd_19 h, cF_LongForm_readImmediate, if_neg g1, if_neg g5]
  rfl
theorem rd_103 {w : Int32} (h : xOp w = 103) : cF_LongForm_read w = (4, if xF3 w = 0 then 3 else -1, xD w, xA w, 0, xI w) := by
  unfold xOp at h
  rw [cF_LongForm_read, cF_LongForm_read_1, if_neg (show ¬ w &&& 127 = 3 by rw [h]; decide), if_neg (show ¬ w &&& 127 = 19 by rw [h]; decide), if_neg (show ¬ w &&& 127 = 23 by rw [h]; decide), if_neg (show ¬ w &&& 127 = 35 by rw [h]; decide), if_neg (show ¬ w &&& 127 = 51 by rw [h]; decide), if_neg (show ¬ w &&& 127 = 55 by rw [h]; decide), if_neg (show ¬ w &&& 127 = 99 by rw [h]; decide), if_pos h]
  unfold xF3
  by_cases e : (j_ushr w 12) &&& 7 = 0
  · rw [if_pos e, if_pos e]; rfl
  · rw [if_neg e, if_neg e]; rfl
theorem rd_else {w : Int32} (h3 : ¬ xOp w = 3) (h19 : ¬ xOp w = 19) (h23 : ¬ xOp w = 23) (h35 : ¬ xOp w = 35) (h51 : ¬ xOp w = 51) (h55 : ¬ xOp w = 55) (h99 : ¬ xOp w = 99) (h103 : ¬ xOp w = 103) (h111 : ¬ xOp w = 111) : cF_LongForm_read w = (4, cF_LongForm_kindOfWhole w, 0, 0, 0, 0) := by
  rw [cF_LongForm_read, cF_LongForm_read_1, if_neg (show ¬ w &&& 127 = 3 from h3), if_neg (show ¬ w &&& 127 = 19 from h19), if_neg (show ¬ w &&& 127 = 23 from h23), if_neg (show ¬ w &&& 127 = 35 from h35), if_neg (show ¬ w &&& 127 = 51 from h51), if_neg (show ¬ w &&& 127 = 55 from h55), if_neg (show ¬ w &&& 127 = 99 from h99), if_neg (show ¬ w &&& 127 = 103 from h103), if_neg (show ¬ w &&& 127 = 111 from h111)]
  rfl
def RL (k : Nat) (w : Int32) : Prop := ∃ d a b i, cF_LongForm_read w = (4, nI k, d, a, b, i) ∧ IsSel (SP k 0) w d ∧ IsSel (SP k 1) w a ∧ IsSel (SP k 2) w b ∧ IsSel (SP k 3) w i
theorem lb_0 {w : Int32} (hm : MTf 0 w 0) : RL 0 w := by
  have h : xOp w = 55 := mt_val hm (s_op w) (by decide +kernel)
  refine ⟨_, _, _, _, ?_, sel_of (s_d w) (by decide +kernel), sel_of (sel_const w 0) (by decide +kernel), sel_of (sel_const w 0) (by decide +kernel), sel_of (s_u w) (by decide +kernel)⟩
  rw [rd_55 h]
  rfl
theorem lb_1 {w : Int32} (hm : MTf 1 w 0) : RL 1 w := by
  have h : xOp w = 23 := mt_val hm (s_op w) (by decide +kernel)
  refine ⟨_, _, _, _, ?_, sel_of (s_d w) (by decide +kernel), sel_of (sel_const w 0) (by decide +kernel), sel_of (sel_const w 0) (by decide +kernel), sel_of (s_u w) (by decide +kernel)⟩
  rw [rd_23 h]
  rfl
theorem lb_2 {w : Int32} (hm : MTf 2 w 0) : RL 2 w := by
  have h : xOp w = 111 := mt_val hm (s_op w) (by decide +kernel)
  refine ⟨_, _, _, _, ?_, sel_of (s_d w) (by decide +kernel), sel_of (sel_const w 0) (by decide +kernel), sel_of (sel_const w 0) (by decide +kernel), sel_of (s_ij w) (by decide +kernel)⟩
  rw [rd_111 h]
  rfl
theorem lb_3 {w : Int32} (hm : MTf 3 w 0) : RL 3 w := by
  have h : xOp w = 103 := mt_val hm (s_op w) (by decide +kernel)
  have g : xF3 w = 0 := mt_val hm (s_f3 w) (by decide +kernel)
  refine ⟨_, _, _, _, ?_, sel_of (s_d w) (by decide +kernel), sel_of (s_a w) (by decide +kernel), sel_of (sel_const w 0) (by decide +kernel), sel_of (s_i w) (by decide +kernel)⟩
  rw [rd_103 h, g]
  rw [show (if (0 : Int32) = 0 then (3 : Int32) else -1) = nI 3 from by decide]
theorem lb_4 {w : Int32} (hm : MTf 4 w 0) : RL 4 w := by
  have h : xOp w = 99 := mt_val hm (s_op w) (by decide +kernel)
  have g : xF3 w = 0 := mt_val hm (s_f3 w) (by decide +kernel)
  refine ⟨_, _, _, _, ?_, sel_of (sel_const w 0) (by decide +kernel), sel_of (s_a w) (by decide +kernel), sel_of (s_b w) (by decide +kernel), sel_of (s_ib w) (by decide +kernel)⟩
  rw [rd_99 h, g]
  rw [show cF_LongForm_kindIn 0 0 = nI 4 from by decide]
theorem lb_5 {w : Int32} (hm : MTf 5 w 0) : RL 5 w := by
  have h : xOp w = 99 := mt_val hm (s_op w) (by decide +kernel)
  have g : xF3 w = 1 := mt_val hm (s_f3 w) (by decide +kernel)
  refine ⟨_, _, _, _, ?_, sel_of (sel_const w 0) (by decide +kernel), sel_of (s_a w) (by decide +kernel), sel_of (s_b w) (by decide +kernel), sel_of (s_ib w) (by decide +kernel)⟩
  rw [rd_99 h, g]
  rw [show cF_LongForm_kindIn 0 1 = nI 5 from by decide]
theorem lb_6 {w : Int32} (hm : MTf 6 w 0) : RL 6 w := by
  have h : xOp w = 99 := mt_val hm (s_op w) (by decide +kernel)
  have g : xF3 w = 4 := mt_val hm (s_f3 w) (by decide +kernel)
  refine ⟨_, _, _, _, ?_, sel_of (sel_const w 0) (by decide +kernel), sel_of (s_a w) (by decide +kernel), sel_of (s_b w) (by decide +kernel), sel_of (s_ib w) (by decide +kernel)⟩
  rw [rd_99 h, g]
  rw [show cF_LongForm_kindIn 0 4 = nI 6 from by decide]
theorem lb_7 {w : Int32} (hm : MTf 7 w 0) : RL 7 w := by
  have h : xOp w = 99 := mt_val hm (s_op w) (by decide +kernel)
  have g : xF3 w = 5 := mt_val hm (s_f3 w) (by decide +kernel)
  refine ⟨_, _, _, _, ?_, sel_of (sel_const w 0) (by decide +kernel), sel_of (s_a w) (by decide +kernel), sel_of (s_b w) (by decide +kernel), sel_of (s_ib w) (by decide +kernel)⟩
  rw [rd_99 h, g]
  rw [show cF_LongForm_kindIn 0 5 = nI 7 from by decide]
theorem lb_8 {w : Int32} (hm : MTf 8 w 0) : RL 8 w := by
  have h : xOp w = 99 := mt_val hm (s_op w) (by decide +kernel)
  have g : xF3 w = 6 := mt_val hm (s_f3 w) (by decide +kernel)
  refine ⟨_, _, _, _, ?_, sel_of (sel_const w 0) (by decide +kernel), sel_of (s_a w) (by decide +kernel), sel_of (s_b w) (by decide +kernel), sel_of (s_ib w) (by decide +kernel)⟩
  rw [rd_99 h, g]
  rw [show cF_LongForm_kindIn 0 6 = nI 8 from by decide]
theorem lb_9 {w : Int32} (hm : MTf 9 w 0) : RL 9 w := by
  have h : xOp w = 99 := mt_val hm (s_op w) (by decide +kernel)
  have g : xF3 w = 7 := mt_val hm (s_f3 w) (by decide +kernel)
  refine ⟨_, _, _, _, ?_, sel_of (sel_const w 0) (by decide +kernel), sel_of (s_a w) (by decide +kernel), sel_of (s_b w) (by decide +kernel), sel_of (s_ib w) (by decide +kernel)⟩
  rw [rd_99 h, g]
  rw [show cF_LongForm_kindIn 0 7 = nI 9 from by decide]
theorem lb_10 {w : Int32} (hm : MTf 10 w 0) : RL 10 w := by
  have h : xOp w = 3 := mt_val hm (s_op w) (by decide +kernel)
  have g : xF3 w = 0 := mt_val hm (s_f3 w) (by decide +kernel)
  refine ⟨_, _, _, _, ?_, sel_of (s_d w) (by decide +kernel), sel_of (s_a w) (by decide +kernel), sel_of (sel_const w 0) (by decide +kernel), sel_of (s_i w) (by decide +kernel)⟩
  rw [rd_3 h, g]
  rw [show cF_LongForm_kindIn 1 0 = nI 10 from by decide]
theorem lb_11 {w : Int32} (hm : MTf 11 w 0) : RL 11 w := by
  have h : xOp w = 3 := mt_val hm (s_op w) (by decide +kernel)
  have g : xF3 w = 1 := mt_val hm (s_f3 w) (by decide +kernel)
  refine ⟨_, _, _, _, ?_, sel_of (s_d w) (by decide +kernel), sel_of (s_a w) (by decide +kernel), sel_of (sel_const w 0) (by decide +kernel), sel_of (s_i w) (by decide +kernel)⟩
  rw [rd_3 h, g]
  rw [show cF_LongForm_kindIn 1 1 = nI 11 from by decide]
theorem lb_12 {w : Int32} (hm : MTf 12 w 0) : RL 12 w := by
  have h : xOp w = 3 := mt_val hm (s_op w) (by decide +kernel)
  have g : xF3 w = 2 := mt_val hm (s_f3 w) (by decide +kernel)
  refine ⟨_, _, _, _, ?_, sel_of (s_d w) (by decide +kernel), sel_of (s_a w) (by decide +kernel), sel_of (sel_const w 0) (by decide +kernel), sel_of (s_i w) (by decide +kernel)⟩
  rw [rd_3 h, g]
  rw [show cF_LongForm_kindIn 1 2 = nI 12 from by decide]
theorem lb_13 {w : Int32} (hm : MTf 13 w 0) : RL 13 w := by
  have h : xOp w = 3 := mt_val hm (s_op w) (by decide +kernel)
  have g : xF3 w = 4 := mt_val hm (s_f3 w) (by decide +kernel)
  refine ⟨_, _, _, _, ?_, sel_of (s_d w) (by decide +kernel), sel_of (s_a w) (by decide +kernel), sel_of (sel_const w 0) (by decide +kernel), sel_of (s_i w) (by decide +kernel)⟩
  rw [rd_3 h, g]
  rw [show cF_LongForm_kindIn 1 4 = nI 13 from by decide]
theorem lb_14 {w : Int32} (hm : MTf 14 w 0) : RL 14 w := by
  have h : xOp w = 3 := mt_val hm (s_op w) (by decide +kernel)
  have g : xF3 w = 5 := mt_val hm (s_f3 w) (by decide +kernel)
  refine ⟨_, _, _, _, ?_, sel_of (s_d w) (by decide +kernel), sel_of (s_a w) (by decide +kernel), sel_of (sel_const w 0) (by decide +kernel), sel_of (s_i w) (by decide +kernel)⟩
  rw [rd_3 h, g]
  rw [show cF_LongForm_kindIn 1 5 = nI 14 from by decide]
theorem lb_15 {w : Int32} (hm : MTf 15 w 0) : RL 15 w := by
  have h : xOp w = 35 := mt_val hm (s_op w) (by decide +kernel)
  have g : xF3 w = 0 := mt_val hm (s_f3 w) (by decide +kernel)
  refine ⟨_, _, _, _, ?_, sel_of (sel_const w 0) (by decide +kernel), sel_of (s_a w) (by decide +kernel), sel_of (s_b w) (by decide +kernel), sel_of (s_is w) (by decide +kernel)⟩
  rw [rd_35 h, g]
  rw [show cF_LongForm_kindIn 2 0 = nI 15 from by decide]
theorem lb_16 {w : Int32} (hm : MTf 16 w 0) : RL 16 w := by
  have h : xOp w = 35 := mt_val hm (s_op w) (by decide +kernel)
  have g : xF3 w = 1 := mt_val hm (s_f3 w) (by decide +kernel)
  refine ⟨_, _, _, _, ?_, sel_of (sel_const w 0) (by decide +kernel), sel_of (s_a w) (by decide +kernel), sel_of (s_b w) (by decide +kernel), sel_of (s_is w) (by decide +kernel)⟩
  rw [rd_35 h, g]
  rw [show cF_LongForm_kindIn 2 1 = nI 16 from by decide]
theorem lb_17 {w : Int32} (hm : MTf 17 w 0) : RL 17 w := by
  have h : xOp w = 35 := mt_val hm (s_op w) (by decide +kernel)
  have g : xF3 w = 2 := mt_val hm (s_f3 w) (by decide +kernel)
  refine ⟨_, _, _, _, ?_, sel_of (sel_const w 0) (by decide +kernel), sel_of (s_a w) (by decide +kernel), sel_of (s_b w) (by decide +kernel), sel_of (s_is w) (by decide +kernel)⟩
  rw [rd_35 h, g]
  rw [show cF_LongForm_kindIn 2 2 = nI 17 from by decide]
theorem lb_18 {w : Int32} (hm : MTf 18 w 0) : RL 18 w := by
  have h : xOp w = 19 := mt_val hm (s_op w) (by decide +kernel)
  have g : xF3 w = 0 := mt_val hm (s_f3 w) (by decide +kernel)
  refine ⟨_, _, _, _, ?_, sel_of (s_d w) (by decide +kernel), sel_of (s_a w) (by decide +kernel), sel_of (sel_const w 0) (by decide +kernel), sel_of (s_i w) (by decide +kernel)⟩
  rw [rd_19b h (by rw [g]; decide) (by rw [g]; decide), g]
  rw [show cF_LongForm_kindIn 3 0 = nI 18 from by decide]
theorem lb_19 {w : Int32} (hm : MTf 19 w 0) : RL 19 w := by
  have h : xOp w = 19 := mt_val hm (s_op w) (by decide +kernel)
  have g : xF3 w = 2 := mt_val hm (s_f3 w) (by decide +kernel)
  refine ⟨_, _, _, _, ?_, sel_of (s_d w) (by decide +kernel), sel_of (s_a w) (by decide +kernel), sel_of (sel_const w 0) (by decide +kernel), sel_of (s_i w) (by decide +kernel)⟩
  rw [rd_19b h (by rw [g]; decide) (by rw [g]; decide), g]
  rw [show cF_LongForm_kindIn 3 2 = nI 19 from by decide]
theorem lb_20 {w : Int32} (hm : MTf 20 w 0) : RL 20 w := by
  have h : xOp w = 19 := mt_val hm (s_op w) (by decide +kernel)
  have g : xF3 w = 3 := mt_val hm (s_f3 w) (by decide +kernel)
  refine ⟨_, _, _, _, ?_, sel_of (s_d w) (by decide +kernel), sel_of (s_a w) (by decide +kernel), sel_of (sel_const w 0) (by decide +kernel), sel_of (s_i w) (by decide +kernel)⟩
  rw [rd_19b h (by rw [g]; decide) (by rw [g]; decide), g]
  rw [show cF_LongForm_kindIn 3 3 = nI 20 from by decide]
theorem lb_21 {w : Int32} (hm : MTf 21 w 0) : RL 21 w := by
  have h : xOp w = 19 := mt_val hm (s_op w) (by decide +kernel)
  have g : xF3 w = 4 := mt_val hm (s_f3 w) (by decide +kernel)
  refine ⟨_, _, _, _, ?_, sel_of (s_d w) (by decide +kernel), sel_of (s_a w) (by decide +kernel), sel_of (sel_const w 0) (by decide +kernel), sel_of (s_i w) (by decide +kernel)⟩
  rw [rd_19b h (by rw [g]; decide) (by rw [g]; decide), g]
  rw [show cF_LongForm_kindIn 3 4 = nI 21 from by decide]
theorem lb_22 {w : Int32} (hm : MTf 22 w 0) : RL 22 w := by
  have h : xOp w = 19 := mt_val hm (s_op w) (by decide +kernel)
  have g : xF3 w = 6 := mt_val hm (s_f3 w) (by decide +kernel)
  refine ⟨_, _, _, _, ?_, sel_of (s_d w) (by decide +kernel), sel_of (s_a w) (by decide +kernel), sel_of (sel_const w 0) (by decide +kernel), sel_of (s_i w) (by decide +kernel)⟩
  rw [rd_19b h (by rw [g]; decide) (by rw [g]; decide), g]
  rw [show cF_LongForm_kindIn 3 6 = nI 22 from by decide]
theorem lb_23 {w : Int32} (hm : MTf 23 w 0) : RL 23 w := by
  have h : xOp w = 19 := mt_val hm (s_op w) (by decide +kernel)
  have g : xF3 w = 7 := mt_val hm (s_f3 w) (by decide +kernel)
  refine ⟨_, _, _, _, ?_, sel_of (s_d w) (by decide +kernel), sel_of (s_a w) (by decide +kernel), sel_of (sel_const w 0) (by decide +kernel), sel_of (s_i w) (by decide +kernel)⟩
  rw [rd_19b h (by rw [g]; decide) (by rw [g]; decide), g]
  rw [show cF_LongForm_kindIn 3 7 = nI 23 from by decide]
theorem lb_24 {w : Int32} (hm : MTf 24 w 0) : RL 24 w := by
  have h : xOp w = 19 := mt_val hm (s_op w) (by decide +kernel)
  have g : xF3 w = 1 := mt_val hm (s_f3 w) (by decide +kernel)
  have g7 : xF7 w = 0 := mt_val hm (s_f7 w) (by decide +kernel)
  refine ⟨_, _, _, _, ?_, sel_of (s_d w) (by decide +kernel), sel_of (s_a w) (by decide +kernel), sel_of (sel_const w 0) (by decide +kernel), sel_of (s_b w) (by decide +kernel)⟩
  rw [rd_19a h (by rw [g]; decide), g, g7]
  rw [show cF_LongForm_kindOfShift 1 0 = nI 24 from by decide]
theorem lb_25 {w : Int32} (hm : MTf 25 w 0) : RL 25 w := by
  have h : xOp w = 19 := mt_val hm (s_op w) (by decide +kernel)
  have g : xF3 w = 5 := mt_val hm (s_f3 w) (by decide +kernel)
  have g7 : xF7 w = 0 := mt_val hm (s_f7 w) (by decide +kernel)
  refine ⟨_, _, _, _, ?_, sel_of (s_d w) (by decide +kernel), sel_of (s_a w) (by decide +kernel), sel_of (sel_const w 0) (by decide +kernel), sel_of (s_b w) (by decide +kernel)⟩
  rw [rd_19a h (by rw [g]; decide), g, g7]
  rw [show cF_LongForm_kindOfShift 5 0 = nI 25 from by decide]
theorem lb_26 {w : Int32} (hm : MTf 26 w 0) : RL 26 w := by
  have h : xOp w = 19 := mt_val hm (s_op w) (by decide +kernel)
  have g : xF3 w = 5 := mt_val hm (s_f3 w) (by decide +kernel)
  have g7 : xF7 w = 32 := mt_val hm (s_f7 w) (by decide +kernel)
  refine ⟨_, _, _, _, ?_, sel_of (s_d w) (by decide +kernel), sel_of (s_a w) (by decide +kernel), sel_of (sel_const w 0) (by decide +kernel), sel_of (s_b w) (by decide +kernel)⟩
  rw [rd_19a h (by rw [g]; decide), g, g7]
  rw [show cF_LongForm_kindOfShift 5 32 = nI 26 from by decide]
theorem lb_27 {w : Int32} (hm : MTf 27 w 0) : RL 27 w := by
  have h : xOp w = 51 := mt_val hm (s_op w) (by decide +kernel)
  have g : xF3 w = 0 := mt_val hm (s_f3 w) (by decide +kernel)
  have g7 : xF7 w = 0 := mt_val hm (s_f7 w) (by decide +kernel)
  refine ⟨_, _, _, _, ?_, sel_of (s_d w) (by decide +kernel), sel_of (s_a w) (by decide +kernel), sel_of (s_b w) (by decide +kernel), sel_of (sel_const w 0) (by decide +kernel)⟩
  rw [rd_51 h, g, g7]
  rw [show cF_LongForm_kindOfPair 0 0 = nI 27 from by decide]
theorem lb_29 {w : Int32} (hm : MTf 29 w 0) : RL 29 w := by
  have h : xOp w = 51 := mt_val hm (s_op w) (by decide +kernel)
  have g : xF3 w = 1 := mt_val hm (s_f3 w) (by decide +kernel)
  have g7 : xF7 w = 0 := mt_val hm (s_f7 w) (by decide +kernel)
  refine ⟨_, _, _, _, ?_, sel_of (s_d w) (by decide +kernel), sel_of (s_a w) (by decide +kernel), sel_of (s_b w) (by decide +kernel), sel_of (sel_const w 0) (by decide +kernel)⟩
  rw [rd_51 h, g, g7]
  rw [show cF_LongForm_kindOfPair 1 0 = nI 29 from by decide]
theorem lb_30 {w : Int32} (hm : MTf 30 w 0) : RL 30 w := by
  have h : xOp w = 51 := mt_val hm (s_op w) (by decide +kernel)
  have g : xF3 w = 2 := mt_val hm (s_f3 w) (by decide +kernel)
  have g7 : xF7 w = 0 := mt_val hm (s_f7 w) (by decide +kernel)
  refine ⟨_, _, _, _, ?_, sel_of (s_d w) (by decide +kernel), sel_of (s_a w) (by decide +kernel), sel_of (s_b w) (by decide +kernel), sel_of (sel_const w 0) (by decide +kernel)⟩
  rw [rd_51 h, g, g7]
  rw [show cF_LongForm_kindOfPair 2 0 = nI 30 from by decide]
theorem lb_31 {w : Int32} (hm : MTf 31 w 0) : RL 31 w := by
  have h : xOp w = 51 := mt_val hm (s_op w) (by decide +kernel)
  have g : xF3 w = 3 := mt_val hm (s_f3 w) (by decide +kernel)
  have g7 : xF7 w = 0 := mt_val hm (s_f7 w) (by decide +kernel)
  refine ⟨_, _, _, _, ?_, sel_of (s_d w) (by decide +kernel), sel_of (s_a w) (by decide +kernel), sel_of (s_b w) (by decide +kernel), sel_of (sel_const w 0) (by decide +kernel)⟩
  rw [rd_51 h, g, g7]
  rw [show cF_LongForm_kindOfPair 3 0 = nI 31 from by decide]
theorem lb_32 {w : Int32} (hm : MTf 32 w 0) : RL 32 w := by
  have h : xOp w = 51 := mt_val hm (s_op w) (by decide +kernel)
  have g : xF3 w = 4 := mt_val hm (s_f3 w) (by decide +kernel)
  have g7 : xF7 w = 0 := mt_val hm (s_f7 w) (by decide +kernel)
  refine ⟨_, _, _, _, ?_, sel_of (s_d w) (by decide +kernel), sel_of (s_a w) (by decide +kernel), sel_of (s_b w) (by decide +kernel), sel_of (sel_const w 0) (by decide +kernel)⟩
  rw [rd_51 h, g, g7]
  rw [show cF_LongForm_kindOfPair 4 0 = nI 32 from by decide]
theorem lb_33 {w : Int32} (hm : MTf 33 w 0) : RL 33 w := by
  have h : xOp w = 51 := mt_val hm (s_op w) (by decide +kernel)
  have g : xF3 w = 5 := mt_val hm (s_f3 w) (by decide +kernel)
  have g7 : xF7 w = 0 := mt_val hm (s_f7 w) (by decide +kernel)
  refine ⟨_, _, _, _, ?_, sel_of (s_d w) (by decide +kernel), sel_of (s_a w) (by decide +kernel), sel_of (s_b w) (by decide +kernel), sel_of (sel_const w 0) (by decide +kernel)⟩
  rw [rd_51 h, g, g7]
  rw [show cF_LongForm_kindOfPair 5 0 = nI 33 from by decide]
theorem lb_35 {w : Int32} (hm : MTf 35 w 0) : RL 35 w := by
  have h : xOp w = 51 := mt_val hm (s_op w) (by decide +kernel)
  have g : xF3 w = 6 := mt_val hm (s_f3 w) (by decide +kernel)
  have g7 : xF7 w = 0 := mt_val hm (s_f7 w) (by decide +kernel)
  refine ⟨_, _, _, _, ?_, sel_of (s_d w) (by decide +kernel), sel_of (s_a w) (by decide +kernel), sel_of (s_b w) (by decide +kernel), sel_of (sel_const w 0) (by decide +kernel)⟩
  rw [rd_51 h, g, g7]
  rw [show cF_LongForm_kindOfPair 6 0 = nI 35 from by decide]
theorem lb_36 {w : Int32} (hm : MTf 36 w 0) : RL 36 w := by
  have h : xOp w = 51 := mt_val hm (s_op w) (by decide +kernel)
  have g : xF3 w = 7 := mt_val hm (s_f3 w) (by decide +kernel)
  have g7 : xF7 w = 0 := mt_val hm (s_f7 w) (by decide +kernel)
  refine ⟨_, _, _, _, ?_, sel_of (s_d w) (by decide +kernel), sel_of (s_a w) (by decide +kernel), sel_of (s_b w) (by decide +kernel), sel_of (sel_const w 0) (by decide +kernel)⟩
  rw [rd_51 h, g, g7]
  rw [show cF_LongForm_kindOfPair 7 0 = nI 36 from by decide]
theorem lb_28 {w : Int32} (hm : MTf 28 w 0) : RL 28 w := by
  have h : xOp w = 51 := mt_val hm (s_op w) (by decide +kernel)
  have g : xF3 w = 0 := mt_val hm (s_f3 w) (by decide +kernel)
  have g7 : xF7 w = 32 := mt_val hm (s_f7 w) (by decide +kernel)
  refine ⟨_, _, _, _, ?_, sel_of (s_d w) (by decide +kernel), sel_of (s_a w) (by decide +kernel), sel_of (s_b w) (by decide +kernel), sel_of (sel_const w 0) (by decide +kernel)⟩
  rw [rd_51 h, g, g7]
  rw [show cF_LongForm_kindOfPair 0 32 = nI 28 from by decide]
theorem lb_34 {w : Int32} (hm : MTf 34 w 0) : RL 34 w := by
  have h : xOp w = 51 := mt_val hm (s_op w) (by decide +kernel)
  have g : xF3 w = 5 := mt_val hm (s_f3 w) (by decide +kernel)
  have g7 : xF7 w = 32 := mt_val hm (s_f7 w) (by decide +kernel)
  refine ⟨_, _, _, _, ?_, sel_of (s_d w) (by decide +kernel), sel_of (s_a w) (by decide +kernel), sel_of (s_b w) (by decide +kernel), sel_of (sel_const w 0) (by decide +kernel)⟩
  rw [rd_51 h, g, g7]
  rw [show cF_LongForm_kindOfPair 5 32 = nI 34 from by decide]
theorem lb_37 {w : Int32} (hm : MTf 37 w 0) : RL 37 w := by
  have h : xOp w = 51 := mt_val hm (s_op w) (by decide +kernel)
  have g : xF3 w = 0 := mt_val hm (s_f3 w) (by decide +kernel)
  have g7 : xF7 w = 1 := mt_val hm (s_f7 w) (by decide +kernel)
  refine ⟨_, _, _, _, ?_, sel_of (s_d w) (by decide +kernel), sel_of (s_a w) (by decide +kernel), sel_of (s_b w) (by decide +kernel), sel_of (sel_const w 0) (by decide +kernel)⟩
  rw [rd_51 h, g, g7]
  rw [show cF_LongForm_kindOfPair 0 1 = nI 37 from by decide]
theorem lb_38 {w : Int32} (hm : MTf 38 w 0) : RL 38 w := by
  have h : xOp w = 51 := mt_val hm (s_op w) (by decide +kernel)
  have g : xF3 w = 1 := mt_val hm (s_f3 w) (by decide +kernel)
  have g7 : xF7 w = 1 := mt_val hm (s_f7 w) (by decide +kernel)
  refine ⟨_, _, _, _, ?_, sel_of (s_d w) (by decide +kernel), sel_of (s_a w) (by decide +kernel), sel_of (s_b w) (by decide +kernel), sel_of (sel_const w 0) (by decide +kernel)⟩
  rw [rd_51 h, g, g7]
  rw [show cF_LongForm_kindOfPair 1 1 = nI 38 from by decide]
theorem lb_39 {w : Int32} (hm : MTf 39 w 0) : RL 39 w := by
  have h : xOp w = 51 := mt_val hm (s_op w) (by decide +kernel)
  have g : xF3 w = 2 := mt_val hm (s_f3 w) (by decide +kernel)
  have g7 : xF7 w = 1 := mt_val hm (s_f7 w) (by decide +kernel)
  refine ⟨_, _, _, _, ?_, sel_of (s_d w) (by decide +kernel), sel_of (s_a w) (by decide +kernel), sel_of (s_b w) (by decide +kernel), sel_of (sel_const w 0) (by decide +kernel)⟩
  rw [rd_51 h, g, g7]
  rw [show cF_LongForm_kindOfPair 2 1 = nI 39 from by decide]
theorem lb_40 {w : Int32} (hm : MTf 40 w 0) : RL 40 w := by
  have h : xOp w = 51 := mt_val hm (s_op w) (by decide +kernel)
  have g : xF3 w = 3 := mt_val hm (s_f3 w) (by decide +kernel)
  have g7 : xF7 w = 1 := mt_val hm (s_f7 w) (by decide +kernel)
  refine ⟨_, _, _, _, ?_, sel_of (s_d w) (by decide +kernel), sel_of (s_a w) (by decide +kernel), sel_of (s_b w) (by decide +kernel), sel_of (sel_const w 0) (by decide +kernel)⟩
  rw [rd_51 h, g, g7]
  rw [show cF_LongForm_kindOfPair 3 1 = nI 40 from by decide]
theorem lb_41 {w : Int32} (hm : MTf 41 w 0) : RL 41 w := by
  have h : xOp w = 51 := mt_val hm (s_op w) (by decide +kernel)
  have g : xF3 w = 4 := mt_val hm (s_f3 w) (by decide +kernel)
  have g7 : xF7 w = 1 := mt_val hm (s_f7 w) (by decide +kernel)
  refine ⟨_, _, _, _, ?_, sel_of (s_d w) (by decide +kernel), sel_of (s_a w) (by decide +kernel), sel_of (s_b w) (by decide +kernel), sel_of (sel_const w 0) (by decide +kernel)⟩
  rw [rd_51 h, g, g7]
  rw [show cF_LongForm_kindOfPair 4 1 = nI 41 from by decide]
theorem lb_42 {w : Int32} (hm : MTf 42 w 0) : RL 42 w := by
  have h : xOp w = 51 := mt_val hm (s_op w) (by decide +kernel)
  have g : xF3 w = 5 := mt_val hm (s_f3 w) (by decide +kernel)
  have g7 : xF7 w = 1 := mt_val hm (s_f7 w) (by decide +kernel)
  refine ⟨_, _, _, _, ?_, sel_of (s_d w) (by decide +kernel), sel_of (s_a w) (by decide +kernel), sel_of (s_b w) (by decide +kernel), sel_of (sel_const w 0) (by decide +kernel)⟩
  rw [rd_51 h, g, g7]
  rw [show cF_LongForm_kindOfPair 5 1 = nI 42 from by decide]
theorem lb_43 {w : Int32} (hm : MTf 43 w 0) : RL 43 w := by
  have h : xOp w = 51 := mt_val hm (s_op w) (by decide +kernel)
  have g : xF3 w = 6 := mt_val hm (s_f3 w) (by decide +kernel)
  have g7 : xF7 w = 1 := mt_val hm (s_f7 w) (by decide +kernel)
  refine ⟨_, _, _, _, ?_, sel_of (s_d w) (by decide +kernel), sel_of (s_a w) (by decide +kernel), sel_of (s_b w) (by decide +kernel), sel_of (sel_const w 0) (by decide +kernel)⟩
  rw [rd_51 h, g, g7]
  rw [show cF_LongForm_kindOfPair 6 1 = nI 43 from by decide]
theorem lb_44 {w : Int32} (hm : MTf 44 w 0) : RL 44 w := by
  have h : xOp w = 51 := mt_val hm (s_op w) (by decide +kernel)
  have g : xF3 w = 7 := mt_val hm (s_f3 w) (by decide +kernel)
  have g7 : xF7 w = 1 := mt_val hm (s_f7 w) (by decide +kernel)
  refine ⟨_, _, _, _, ?_, sel_of (s_d w) (by decide +kernel), sel_of (s_a w) (by decide +kernel), sel_of (s_b w) (by decide +kernel), sel_of (sel_const w 0) (by decide +kernel)⟩
  rw [rd_51 h, g, g7]
  rw [show cF_LongForm_kindOfPair 7 1 = nI 44 from by decide]
theorem lb_45 {w : Int32} (hm : MTf 45 w 0) : RL 45 w := by
  have h : w = 267386895 := mt_val hm (sel_self w) (by decide +kernel)
  refine ⟨_, _, _, _, ?_, sel_of (sel_const w 0) (by decide +kernel), sel_of (sel_const w 0) (by decide +kernel), sel_of (sel_const w 0) (by decide +kernel), sel_of (sel_const w 0) (by decide +kernel)⟩
  rw [h]
  decide
theorem lb_46 {w : Int32} (hm : MTf 46 w 0) : RL 46 w := by
  have h : w = 115 := mt_val hm (sel_self w) (by decide +kernel)
  refine ⟨_, _, _, _, ?_, sel_of (sel_const w 0) (by decide +kernel), sel_of (sel_const w 0) (by decide +kernel), sel_of (sel_const w 0) (by decide +kernel), sel_of (sel_const w 0) (by decide +kernel)⟩
  rw [h]
  decide
theorem lb_47 {w : Int32} (hm : MTf 47 w 0) : RL 47 w := by
  have h : w = 1048691 := mt_val hm (sel_self w) (by decide +kernel)
  refine ⟨_, _, _, _, ?_, sel_of (sel_const w 0) (by decide +kernel), sel_of (sel_const w 0) (by decide +kernel), sel_of (sel_const w 0) (by decide +kernel), sel_of (sel_const w 0) (by decide +kernel)⟩
  rw [h]
  decide
theorem lb_all {k : Nat} {w : Int32} (hk : k < 48) (hm : MTf k w 0) : RL k w := by
  rcases (show k = 0 ∨ k = 1 ∨ k = 2 ∨ k = 3 ∨ k = 4 ∨ k = 5 ∨ k = 6 ∨ k = 7 ∨ k = 8 ∨ k = 9 ∨ k = 10 ∨ k = 11 ∨ k = 12 ∨ k = 13 ∨ k = 14 ∨ k = 15 ∨ k = 16 ∨ k = 17 ∨ k = 18 ∨ k = 19 ∨ k = 20 ∨ k = 21 ∨ k = 22 ∨ k = 23 ∨ k = 24 ∨ k = 25 ∨ k = 26 ∨ k = 27 ∨ k = 28 ∨ k = 29 ∨ k = 30 ∨ k = 31 ∨ k = 32 ∨ k = 33 ∨ k = 34 ∨ k = 35 ∨ k = 36 ∨ k = 37 ∨ k = 38 ∨ k = 39 ∨ k = 40 ∨ k = 41 ∨ k = 42 ∨ k = 43 ∨ k = 44 ∨ k = 45 ∨ k = 46 ∨ k = 47 by omega) with e | e | e | e | e | e | e | e | e | e | e | e | e | e | e | e | e | e | e | e | e | e | e | e | e | e | e | e | e | e | e | e | e | e | e | e | e | e | e | e | e | e | e | e | e | e | e | e <;> subst e
  · exact lb_0 hm
  · exact lb_1 hm
  · exact lb_2 hm
  · exact lb_3 hm
  · exact lb_4 hm
  · exact lb_5 hm
  · exact lb_6 hm
  · exact lb_7 hm
  · exact lb_8 hm
  · exact lb_9 hm
  · exact lb_10 hm
  · exact lb_11 hm
  · exact lb_12 hm
  · exact lb_13 hm
  · exact lb_14 hm
  · exact lb_15 hm
  · exact lb_16 hm
  · exact lb_17 hm
  · exact lb_18 hm
  · exact lb_19 hm
  · exact lb_20 hm
  · exact lb_21 hm
  · exact lb_22 hm
  · exact lb_23 hm
  · exact lb_24 hm
  · exact lb_25 hm
  · exact lb_26 hm
  · exact lb_27 hm
  · exact lb_28 hm
  · exact lb_29 hm
  · exact lb_30 hm
  · exact lb_31 hm
  · exact lb_32 hm
  · exact lb_33 hm
  · exact lb_34 hm
  · exact lb_35 hm
  · exact lb_36 hm
  · exact lb_37 hm
  · exact lb_38 hm
  · exact lb_39 hm
  · exact lb_40 hm
  · exact lb_41 hm
  · exact lb_42 hm
  · exact lb_43 hm
  · exact lb_44 hm
  · exact lb_45 hm
  · exact lb_46 hm
  · exact lb_47 hm
theorem la_all (w : Int32) : (cF_LongForm_read w).2.1 = -1 ∨ ∃ k, k < 48 ∧ MTf k w 0 := by
  by_cases h3 : xOp w = 3
  · have h := h3
    rcases f3_cases (j_ushr w 12) with g | g | g | g | g | g | g | g
    · exact Or.inr ⟨10, by decide, mt_of2 (s_op w) h (s_f3 w) g (by decide +kernel)⟩
    · exact Or.inr ⟨11, by decide, mt_of2 (s_op w) h (s_f3 w) g (by decide +kernel)⟩
    · exact Or.inr ⟨12, by decide, mt_of2 (s_op w) h (s_f3 w) g (by decide +kernel)⟩
    · left
      have g2 : xF3 w = 3 := g
      rw [rd_3 h, g2]
      show cF_LongForm_kindIn 1 3 = -1
      decide
    · exact Or.inr ⟨13, by decide, mt_of2 (s_op w) h (s_f3 w) g (by decide +kernel)⟩
    · exact Or.inr ⟨14, by decide, mt_of2 (s_op w) h (s_f3 w) g (by decide +kernel)⟩
    · left
      have g2 : xF3 w = 6 := g
      rw [rd_3 h, g2]
      show cF_LongForm_kindIn 1 6 = -1
      decide
    · left
      have g2 : xF3 w = 7 := g
      rw [rd_3 h, g2]
      show cF_LongForm_kindIn 1 7 = -1
      decide
  by_cases h19 : xOp w = 19
  · have h := h19
    rcases f3_cases (j_ushr w 12) with g | g | g | g | g | g | g | g
    · exact Or.inr ⟨18, by decide, mt_of2 (s_op w) h (s_f3 w) g (by decide +kernel)⟩
    · have g2 : xF3 w = 1 := g
      by_cases h7_0 : xF7 w = 0
      · exact Or.inr ⟨24, by decide, mt_of3 (s_op w) h (s_f3 w) g (s_f7 w) h7_0 (by decide +kernel)⟩
      · skip
        by_cases h7_32 : xF7 w = 32
        · left
          rw [rd_19a h (by rw [g2]; decide), g2, h7_32]
          show cF_LongForm_kindOfShift 1 32 = -1
          decide
        · skip
          left
          rw [rd_19a h (by rw [g2]; decide), cF_LongForm_kindOfShift, if_neg h7_0, if_neg h7_32]
    · exact Or.inr ⟨19, by decide, mt_of2 (s_op w) h (s_f3 w) g (by decide +kernel)⟩
    · exact Or.inr ⟨20, by decide, mt_of2 (s_op w) h (s_f3 w) g (by decide +kernel)⟩
    · exact Or.inr ⟨21, by decide, mt_of2 (s_op w) h (s_f3 w) g (by decide +kernel)⟩
    · have g2 : xF3 w = 5 := g
      by_cases h7_0 : xF7 w = 0
      · exact Or.inr ⟨25, by decide, mt_of3 (s_op w) h (s_f3 w) g (s_f7 w) h7_0 (by decide +kernel)⟩
      · skip
        by_cases h7_32 : xF7 w = 32
        · exact Or.inr ⟨26, by decide, mt_of3 (s_op w) h (s_f3 w) g (s_f7 w) h7_32 (by decide +kernel)⟩
        · skip
          left
          rw [rd_19a h (by rw [g2]; decide), cF_LongForm_kindOfShift, if_neg h7_0, if_neg h7_32]
    · exact Or.inr ⟨22, by decide, mt_of2 (s_op w) h (s_f3 w) g (by decide +kernel)⟩
    · exact Or.inr ⟨23, by decide, mt_of2 (s_op w) h (s_f3 w) g (by decide +kernel)⟩
  by_cases h23 : xOp w = 23
  · have h := h23
    exact Or.inr ⟨1, by decide, mt_of1 (s_op w) h (by decide +kernel)⟩
  by_cases h35 : xOp w = 35
  · have h := h35
    rcases f3_cases (j_ushr w 12) with g | g | g | g | g | g | g | g
    · exact Or.inr ⟨15, by decide, mt_of2 (s_op w) h (s_f3 w) g (by decide +kernel)⟩
    · exact Or.inr ⟨16, by decide, mt_of2 (s_op w) h (s_f3 w) g (by decide +kernel)⟩
    · exact Or.inr ⟨17, by decide, mt_of2 (s_op w) h (s_f3 w) g (by decide +kernel)⟩
    · left
      have g2 : xF3 w = 3 := g
      rw [rd_35 h, g2]
      show cF_LongForm_kindIn 2 3 = -1
      decide
    · left
      have g2 : xF3 w = 4 := g
      rw [rd_35 h, g2]
      show cF_LongForm_kindIn 2 4 = -1
      decide
    · left
      have g2 : xF3 w = 5 := g
      rw [rd_35 h, g2]
      show cF_LongForm_kindIn 2 5 = -1
      decide
    · left
      have g2 : xF3 w = 6 := g
      rw [rd_35 h, g2]
      show cF_LongForm_kindIn 2 6 = -1
      decide
    · left
      have g2 : xF3 w = 7 := g
      rw [rd_35 h, g2]
      show cF_LongForm_kindIn 2 7 = -1
      decide
  by_cases h51 : xOp w = 51
  · have h := h51
    rcases f3_cases (j_ushr w 12) with g | g | g | g | g | g | g | g
    · have g2 : xF3 w = 0 := g
      by_cases h7_0 : xF7 w = 0
      · exact Or.inr ⟨27, by decide, mt_of3 (s_op w) h (s_f3 w) g (s_f7 w) h7_0 (by decide +kernel)⟩
      · skip
        by_cases h7_1 : xF7 w = 1
        · exact Or.inr ⟨37, by decide, mt_of3 (s_op w) h (s_f3 w) g (s_f7 w) h7_1 (by decide +kernel)⟩
        · skip
          by_cases h7_32 : xF7 w = 32
          · exact Or.inr ⟨28, by decide, mt_of3 (s_op w) h (s_f3 w) g (s_f7 w) h7_32 (by decide +kernel)⟩
          · skip
            left
            rw [rd_51 h, cF_LongForm_kindOfPair, if_neg h7_0, if_neg h7_1, if_neg h7_32]
    · have g2 : xF3 w = 1 := g
      by_cases h7_0 : xF7 w = 0
      · exact Or.inr ⟨29, by decide, mt_of3 (s_op w) h (s_f3 w) g (s_f7 w) h7_0 (by decide +kernel)⟩
      · skip
        by_cases h7_1 : xF7 w = 1
        · exact Or.inr ⟨38, by decide, mt_of3 (s_op w) h (s_f3 w) g (s_f7 w) h7_1 (by decide +kernel)⟩
        · skip
          by_cases h7_32 : xF7 w = 32
          · left
            rw [rd_51 h, g2, h7_32]
            show cF_LongForm_kindOfPair 1 32 = -1
            decide
          · skip
            left
            rw [rd_51 h, cF_LongForm_kindOfPair, if_neg h7_0, if_neg h7_1, if_neg h7_32]
    · have g2 : xF3 w = 2 := g
      by_cases h7_0 : xF7 w = 0
      · exact Or.inr ⟨30, by decide, mt_of3 (s_op w) h (s_f3 w) g (s_f7 w) h7_0 (by decide +kernel)⟩
      · skip
        by_cases h7_1 : xF7 w = 1
        · exact Or.inr ⟨39, by decide, mt_of3 (s_op w) h (s_f3 w) g (s_f7 w) h7_1 (by decide +kernel)⟩
        · skip
          by_cases h7_32 : xF7 w = 32
          · left
            rw [rd_51 h, g2, h7_32]
            show cF_LongForm_kindOfPair 2 32 = -1
            decide
          · skip
            left
            rw [rd_51 h, cF_LongForm_kindOfPair, if_neg h7_0, if_neg h7_1, if_neg h7_32]
    · have g2 : xF3 w = 3 := g
      by_cases h7_0 : xF7 w = 0
      · exact Or.inr ⟨31, by decide, mt_of3 (s_op w) h (s_f3 w) g (s_f7 w) h7_0 (by decide +kernel)⟩
      · skip
        by_cases h7_1 : xF7 w = 1
        · exact Or.inr ⟨40, by decide, mt_of3 (s_op w) h (s_f3 w) g (s_f7 w) h7_1 (by decide +kernel)⟩
        · skip
          by_cases h7_32 : xF7 w = 32
          · left
            rw [rd_51 h, g2, h7_32]
            show cF_LongForm_kindOfPair 3 32 = -1
            decide
          · skip
            left
            rw [rd_51 h, cF_LongForm_kindOfPair, if_neg h7_0, if_neg h7_1, if_neg h7_32]
    · have g2 : xF3 w = 4 := g
      by_cases h7_0 : xF7 w = 0
      · exact Or.inr ⟨32, by decide, mt_of3 (s_op w) h (s_f3 w) g (s_f7 w) h7_0 (by decide +kernel)⟩
      · skip
        by_cases h7_1 : xF7 w = 1
        · exact Or.inr ⟨41, by decide, mt_of3 (s_op w) h (s_f3 w) g (s_f7 w) h7_1 (by decide +kernel)⟩
        · skip
          by_cases h7_32 : xF7 w = 32
          · left
            rw [rd_51 h, g2, h7_32]
            show cF_LongForm_kindOfPair 4 32 = -1
            decide
          · skip
            left
            rw [rd_51 h, cF_LongForm_kindOfPair, if_neg h7_0, if_neg h7_1, if_neg h7_32]
    · have g2 : xF3 w = 5 := g
      by_cases h7_0 : xF7 w = 0
      · exact Or.inr ⟨33, by decide, mt_of3 (s_op w) h (s_f3 w) g (s_f7 w) h7_0 (by decide +kernel)⟩
      · skip
        by_cases h7_1 : xF7 w = 1
        · exact Or.inr ⟨42, by decide, mt_of3 (s_op w) h (s_f3 w) g (s_f7 w) h7_1 (by decide +kernel)⟩
        · skip
          by_cases h7_32 : xF7 w = 32
          · exact Or.inr ⟨34, by decide, mt_of3 (s_op w) h (s_f3 w) g (s_f7 w) h7_32 (by decide +kernel)⟩
          · skip
            left
            rw [rd_51 h, cF_LongForm_kindOfPair, if_neg h7_0, if_neg h7_1, if_neg h7_32]
    · have g2 : xF3 w = 6 := g
      by_cases h7_0 : xF7 w = 0
      · exact Or.inr ⟨35, by decide, mt_of3 (s_op w) h (s_f3 w) g (s_f7 w) h7_0 (by decide +kernel)⟩
      · skip
        by_cases h7_1 : xF7 w = 1
        · exact Or.inr ⟨43, by decide, mt_of3 (s_op w) h (s_f3 w) g (s_f7 w) h7_1 (by decide +kernel)⟩
        · skip
          by_cases h7_32 : xF7 w = 32
          · left
            rw [rd_51 h, g2, h7_32]
            show cF_LongForm_kindOfPair 6 32 = -1
            decide
          · skip
            left
            rw [rd_51 h, cF_LongForm_kindOfPair, if_neg h7_0, if_neg h7_1, if_neg h7_32]
    · have g2 : xF3 w = 7 := g
      by_cases h7_0 : xF7 w = 0
      · exact Or.inr ⟨36, by decide, mt_of3 (s_op w) h (s_f3 w) g (s_f7 w) h7_0 (by decide +kernel)⟩
      · skip
        by_cases h7_1 : xF7 w = 1
        · exact Or.inr ⟨44, by decide, mt_of3 (s_op w) h (s_f3 w) g (s_f7 w) h7_1 (by decide +kernel)⟩
        · skip
          by_cases h7_32 : xF7 w = 32
          · left
            rw [rd_51 h, g2, h7_32]
            show cF_LongForm_kindOfPair 7 32 = -1
            decide
          · skip
            left
            rw [rd_51 h, cF_LongForm_kindOfPair, if_neg h7_0, if_neg h7_1, if_neg h7_32]
  by_cases h55 : xOp w = 55
  · have h := h55
    exact Or.inr ⟨0, by decide, mt_of1 (s_op w) h (by decide +kernel)⟩
  by_cases h99 : xOp w = 99
  · have h := h99
    rcases f3_cases (j_ushr w 12) with g | g | g | g | g | g | g | g
    · exact Or.inr ⟨4, by decide, mt_of2 (s_op w) h (s_f3 w) g (by decide +kernel)⟩
    · exact Or.inr ⟨5, by decide, mt_of2 (s_op w) h (s_f3 w) g (by decide +kernel)⟩
    · left
      have g2 : xF3 w = 2 := g
      rw [rd_99 h, g2]
      show cF_LongForm_kindIn 0 2 = -1
      decide
    · left
      have g2 : xF3 w = 3 := g
      rw [rd_99 h, g2]
      show cF_LongForm_kindIn 0 3 = -1
      decide
    · exact Or.inr ⟨6, by decide, mt_of2 (s_op w) h (s_f3 w) g (by decide +kernel)⟩
    · exact Or.inr ⟨7, by decide, mt_of2 (s_op w) h (s_f3 w) g (by decide +kernel)⟩
    · exact Or.inr ⟨8, by decide, mt_of2 (s_op w) h (s_f3 w) g (by decide +kernel)⟩
    · exact Or.inr ⟨9, by decide, mt_of2 (s_op w) h (s_f3 w) g (by decide +kernel)⟩
  by_cases h103 : xOp w = 103
  · have h := h103
    rcases f3_cases (j_ushr w 12) with g | g | g | g | g | g | g | g
    · exact Or.inr ⟨3, by decide, mt_of2 (s_op w) h (s_f3 w) g (by decide +kernel)⟩
    · left
      have g2 : xF3 w = 1 := g
      rw [rd_103 h, g2]
      show (if (1 : Int32) = 0 then (3 : Int32) else -1) = -1
      decide
    · left
      have g2 : xF3 w = 2 := g
      rw [rd_103 h, g2]
      show (if (2 : Int32) = 0 then (3 : Int32) else -1) = -1
      decide
    · left
      have g2 : xF3 w = 3 := g
      rw [rd_103 h, g2]
      show (if (3 : Int32) = 0 then (3 : Int32) else -1) = -1
      decide
    · left
      have g2 : xF3 w = 4 := g
      rw [rd_103 h, g2]
      show (if (4 : Int32) = 0 then (3 : Int32) else -1) = -1
      decide
    · left
      have g2 : xF3 w = 5 := g
      rw [rd_103 h, g2]
      show (if (5 : Int32) = 0 then (3 : Int32) else -1) = -1
      decide
    · left
      have g2 : xF3 w = 6 := g
      rw [rd_103 h, g2]
      show (if (6 : Int32) = 0 then (3 : Int32) else -1) = -1
      decide
    · left
      have g2 : xF3 w = 7 := g
      rw [rd_103 h, g2]
      show (if (7 : Int32) = 0 then (3 : Int32) else -1) = -1
      decide
  by_cases h111 : xOp w = 111
  · have h := h111
    exact Or.inr ⟨2, by decide, mt_of1 (s_op w) h (by decide +kernel)⟩
  by_cases e1 : w = 115
  · exact Or.inr ⟨46, by decide, mt_of1 (sel_self w) e1 (by decide +kernel)⟩
  by_cases e2 : w = 1048691
  · exact Or.inr ⟨47, by decide, mt_of1 (sel_self w) e2 (by decide +kernel)⟩
  by_cases e3 : w = 267386895
  · exact Or.inr ⟨45, by decide, mt_of1 (sel_self w) e3 (by decide +kernel)⟩
  left
  rw [rd_else h3 h19 h23 h35 h51 h55 h99 h103 h111, cF_LongForm_kindOfWhole, if_neg e1, if_neg e2, if_neg e3]
theorem rd_b4 (w : Int32) : (cF_LongForm_read w).1 = 4 := by
  by_cases h3 : xOp w = 3
  · rw [rd_3 h3]
  by_cases h19 : xOp w = 19
  · rw [rd_19 h19]
  by_cases h23 : xOp w = 23
  · rw [rd_23 h23]
  by_cases h35 : xOp w = 35
  · rw [rd_35 h35]
  by_cases h51 : xOp w = 51
  · rw [rd_51 h51]
  by_cases h55 : xOp w = 55
  · rw [rd_55 h55]
  by_cases h99 : xOp w = 99
  · rw [rd_99 h99]
  by_cases h103 : xOp w = 103
  · rw [rd_103 h103]
  by_cases h111 : xOp w = 111
  · rw [rd_111 h111]
  rw [rd_else h3 h19 h23 h35 h51 h55 h99 h103 h111]
theorem dec_long {w : Int32} (hl : ¬ mF_StepMachineModel_isLong w = 0) (part : Nat → Int32) : (mF_StepMachineModel_find part w).1 = (cF_LongForm_read w).2.1 ∧ (cF_LongForm_read w).1 = 4 ∧ (¬ (cF_LongForm_read w).2.1 = -1 → (mF_StepMachineModel_find part w).2 0 = (cF_LongForm_read w).2.2.1 ∧ (mF_StepMachineModel_find part w).2 1 = (cF_LongForm_read w).2.2.2.1 ∧ (mF_StepMachineModel_find part w).2 2 = (cF_LongForm_read w).2.2.2.2.1 ∧ (mF_StepMachineModel_find part w).2 3 = (cF_LongForm_read w).2.2.2.2.2) := by
  rcases find_long hl part with ⟨k, P, h2, h3, h4⟩ | ⟨h1, h2⟩
  · obtain ⟨d, a, b, i, e, sd, sa, sb, si⟩ := lb_all h2 h4.1
    rw [h3, e]
    exact ⟨rfl, rfl, fun _ => ⟨sel_eq (h4.2.1 0 (by decide)) sd fun _ _ => rfl, sel_eq (h4.2.1 1 (by decide)) sa fun _ _ => rfl, sel_eq (h4.2.1 2 (by decide)) sb fun _ _ => rfl, sel_eq (h4.2.1 3 (by decide)) si fun _ _ => rfl⟩⟩
  · have e : (cF_LongForm_read w).2.1 = -1 := by
      rcases la_all w with h | ⟨k, hk, hm⟩
      · exact h
      · obtain ⟨P, hP⟩ := ft_long hk hm
        exact absurd hP (h2 k hk P)
    refine ⟨h1.trans e.symm, rd_b4 w, fun q => absurd e q⟩
