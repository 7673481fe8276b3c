def CT (k K p i : Nat) : Nat := if SP K p i < 32 then PW K (QT k) (SP K p i) else if SP K p i = 64 then 64 else 99
theorem qt_rng : ∀ k, k < 75 → ∀ p, p < 4 → ∀ i, i < 32 → QT k p i < 32 ∨ QT k p i = 64 ∨ QT k p i = 99 := by decide +kernel
theorem sr_of {k K : Nat} (hk : k < 75) (hK : K < 48) {w : Int32} {P : Nat → Int32} (hst : ∃ Q, mF_StepMachineModel_stretch P (nI k) = (mF_StepMachineModel_put Q (nI K), Q) ∧ ∀ p, p < 4 → IsSel (QT k p) w (Q p)) : ∃ l Q R, mF_StepMachineModel_stretch P (nI k) = (l, Q) ∧ mF_StepMachineModel_find Q l = (nI K, R) ∧ ∀ p, p < 4 → IsSel (CT k K p) w (R p) := by
  obtain ⟨Q, e, hQ⟩ := hst
  have hl := put_sel hK w (qt_rng k hk) hQ
  have hm : MTf K (mF_StepMachineModel_put Q (nI K)) 0 := fun j _ hj hr => by
    have hj2 : j < 32 := by rw [show bN K = 32 from if_pos hK] at hj; exact hj
    rw [hl j hj2]
    unfold PW
    rw [if_pos hr]
    by_cases e : rN K j = 1
    · rw [if_pos e, gb_64, decide_eq_true e]
    · rw [if_neg e, gb_99, decide_eq_false e]
  obtain ⟨R, e2, hR⟩ := find_is hK hm Q
  exact ⟨_, Q, R, e, e2, fun p hp => sel_trans hl (hR.2.1 p hp)⟩
def RS (k K : Nat) (w : Int32) : Prop := ∃ d a b i, cF_ShortForm_read w = (2, nI K, d, a, b, i) ∧ IsSel (CT k K 0) w d ∧ IsSel (CT k K 1) w a ∧ IsSel (CT k K 2) w b ∧ IsSel (CT k K 3) w i
theorem mt_of4 {k : Nat} {w x1 c1 x2 c2 x3 c3 x4 c4 : Int32} {σ1 σ2 σ3 σ4 : Nat → Nat} (h1 : IsSel σ1 w x1) (e1 : x1 = c1) (h2 : IsSel σ2 w x2) (e2 : x2 = c2) (h3 : IsSel σ3 w x3) (e3 : x3 = c3) (h4 : IsSel σ4 w x4) (e4 : x4 = c4) (d : ∀ j, j < 32 → j < bN k → rN k j < 2 → ((cov k σ1 c1 j || cov k σ2 c2 j) || (cov k σ3 c3 j || cov k σ4 c4 j)) = true) : MTf k w 0 := fun j _ h5 h6 => by
  have hb := bN_le k
  have hj : j < 32 := by omega
  rcases Bool.or_eq_true_iff.mp (d j hj h5 h6) with g | g
  · rcases Bool.or_eq_true_iff.mp g with g | g
    · exact cov_of h1 e1 hj g
    · exact cov_of h2 e2 hj g
  · rcases Bool.or_eq_true_iff.mp g with g | g
    · exact cov_of h3 e3 hj g
    · exact cov_of h4 e4 hj g
theorem mt_of5 {k : Nat} {w x1 c1 x2 c2 x3 c3 x4 c4 x5 c5 : Int32} {σ1 σ2 σ3 σ4 σ5 : Nat → Nat} (h1 : IsSel σ1 w x1) (e1 : x1 = c1) (h2 : IsSel σ2 w x2) (e2 : x2 = c2) (h3 : IsSel σ3 w x3) (e3 : x3 = c3) (h4 : IsSel σ4 w x4) (e4 : x4 = c4) (h5 : IsSel σ5 w x5) (e5 : x5 = c5) (d : ∀ j, j < 32 → j < bN k → rN k j < 2 → (((cov k σ1 c1 j || cov k σ2 c2 j) || (cov k σ3 c3 j || cov k σ4 c4 j)) || cov k σ5 c5 j) = true) : MTf k w 0 := fun j _ h6 h7 => by
  have hb := bN_le k
  have hj : j < 32 := by omega
  rcases Bool.or_eq_true_iff.mp (d j hj h6 h7) with g | g
  · rcases Bool.or_eq_true_iff.mp g with g | g
    · rcases Bool.or_eq_true_iff.mp g with g | g
      · exact cov_of h1 e1 hj g
      · exact cov_of h2 e2 hj g
    · rcases Bool.or_eq_true_iff.mp g with g | g
      · exact cov_of h3 e3 hj g
      · exact cov_of h4 e4 hj g
  · exact cov_of h5 e5 hj g
theorem f2_cases (x : Int32) : (x &&& 3) = 0 ∨ (x &&& 3) = 1 ∨ (x &&& 3) = 2 ∨ (x &&& 3) = 3 := by
  have h := sel_low 2 (by decide) (sel_and 3 (sel_self x)) (by decide)
  have e : (x &&& 3) = nI (x &&& 3).toInt.toNat := ti_nI h.1
  rcases (show (x &&& 3).toInt.toNat = 0 ∨ (x &&& 3).toInt.toNat = 1 ∨ (x &&& 3).toInt.toNat = 2 ∨ (x &&& 3).toInt.toNat = 3 by omega) with g | g | g | g <;> (rw [g] at e; simp only [e]; decide)
theorem f1_cases (x : Int32) : (x &&& 1) = 0 ∨ (x &&& 1) = 1 := by
  have h := sel_low 1 (by decide) (sel_and 1 (sel_self x)) (by decide)
  have e : (x &&& 1) = nI (x &&& 1).toInt.toNat := ti_nI h.1
  rcases (show (x &&& 1).toInt.toNat = 0 ∨ (x &&& 1).toInt.toNat = 1 by omega) with g | g <;> (rw [g] at e; simp only [e]; decide)

def gz_w (i : Nat) : Nat := [0, 1, 2, 3, 4, 5, 6, 7, 8, 9, 10, 11, 12, 13, 14, 15, 99, 99, 99, 99, 99, 99, 99, 99, 99, 99, 99, 99, 99, 99, 99, 99].getD i 99
def gz_x3 (i : Nat) : Nat := [0, 1, 99, 99, 99, 99, 99, 99, 99, 99, 99, 99, 99, 99, 99, 99, 99, 99, 99, 99, 99, 99, 99, 99, 99, 99, 99, 99, 99, 99, 99, 99].getD i 99
theorem z_x3 {w : Int32} (hw : HiZ w) : IsSel gz_x3 w (w &&& 3) := sel_of (sel_cut hw (sel_and _ (sel_self w))) (by decide +kernel)
def gz_xH (i : Nat) : Nat := [13, 14, 15, 99, 99, 99, 99, 99, 99, 99, 99, 99, 99, 99, 99, 99, 99, 99, 99, 99, 99, 99, 99, 99, 99, 99, 99, 99, 99, 99, 99, 99].getD i 99
theorem z_xH {w : Int32} (hw : HiZ w) : IsSel gz_xH w (j_ushr w 13) := sel_of (sel_cut hw (sel_ushr 13 (by decide) (sel_self w))) (by decide +kernel)
def gz_xT (i : Nat) : Nat := [12, 99, 99, 99, 99, 99, 99, 99, 99, 99, 99, 99, 99, 99, 99, 99, 99, 99, 99, 99, 99, 99, 99, 99, 99, 99, 99, 99, 99, 99, 99, 99].getD i 99
theorem z_xT {w : Int32} (hw : HiZ w) : IsSel gz_xT w ((j_ushr w 12) &&& 1) := sel_of (sel_cut hw (sel_and _ (sel_ushr 12 (by decide) (sel_self w)))) (by decide +kernel)
def gz_x10 (i : Nat) : Nat := [10, 11, 99, 99, 99, 99, 99, 99, 99, 99, 99, 99, 99, 99, 99, 99, 99, 99, 99, 99, 99, 99, 99, 99, 99, 99, 99, 99, 99, 99, 99, 99].getD i 99
theorem z_x10 {w : Int32} (hw : HiZ w) : IsSel gz_x10 w ((j_ushr w 10) &&& 3) := sel_of (sel_cut hw (sel_and _ (sel_ushr 10 (by decide) (sel_self w)))) (by decide +kernel)
def gz_x5 (i : Nat) : Nat := [5, 6, 99, 99, 99, 99, 99, 99, 99, 99, 99, 99, 99, 99, 99, 99, 99, 99, 99, 99, 99, 99, 99, 99, 99, 99, 99, 99, 99, 99, 99, 99].getD i 99
theorem z_x5 {w : Int32} (hw : HiZ w) : IsSel gz_x5 w ((j_ushr w 5) &&& 3) := sel_of (sel_cut hw (sel_and _ (sel_ushr 5 (by decide) (sel_self w)))) (by decide +kernel)
def gz_xd (i : Nat) : Nat := [7, 8, 9, 10, 11, 99, 99, 99, 99, 99, 99, 99, 99, 99, 99, 99, 99, 99, 99, 99, 99, 99, 99, 99, 99, 99, 99, 99, 99, 99, 99, 99].getD i 99
theorem z_xd {w : Int32} (hw : HiZ w) : IsSel gz_xd w ((j_ushr w 7) &&& 31) := sel_of (sel_cut hw (sel_and _ (sel_ushr 7 (by decide) (sel_self w)))) (by decide +kernel)
def gz_xe (i : Nat) : Nat := [2, 3, 4, 5, 6, 99, 99, 99, 99, 99, 99, 99, 99, 99, 99, 99, 99, 99, 99, 99, 99, 99, 99, 99, 99, 99, 99, 99, 99, 99, 99, 99].getD i 99
theorem z_xe {w : Int32} (hw : HiZ w) : IsSel gz_xe w ((j_ushr w 2) &&& 31) := sel_of (sel_cut hw (sel_and _ (sel_ushr 2 (by decide) (sel_self w)))) (by decide +kernel)
def gz_n2 (i : Nat) : Nat := [2, 3, 4, 64, 99, 99, 99, 99, 99, 99, 99, 99, 99, 99, 99, 99, 99, 99, 99, 99, 99, 99, 99, 99, 99, 99, 99, 99, 99, 99, 99, 99].getD i 99
theorem z_n2 {w : Int32} (hw : HiZ w) : IsSel gz_n2 w (8 + ((j_ushr w 2) &&& 7)) := sel_of (sel_cut hw (sel_add (sel_const w 8) (sel_and _ (sel_ushr 2 (by decide) (sel_self w))) (by decide +kernel))) (by decide +kernel)
def gz_n7 (i : Nat) : Nat := [7, 8, 9, 64, 99, 99, 99, 99, 99, 99, 99, 99, 99, 99, 99, 99, 99, 99, 99, 99, 99, 99, 99, 99, 99, 99, 99, 99, 99, 99, 99, 99].getD i 99
theorem z_n7 {w : Int32} (hw : HiZ w) : IsSel gz_n7 w (8 + ((j_ushr w 7) &&& 7)) := sel_of (sel_cut hw (sel_add (sel_const w 8) (sel_and _ (sel_ushr 7 (by decide) (sel_self w))) (by decide +kernel))) (by decide +kernel)
def gz_m7 (i : Nat) : Nat := [7, 8, 9, 64, 99, 99, 99, 99, 99, 99, 99, 99, 99, 99, 99, 99, 99, 99, 99, 99, 99, 99, 99, 99, 99, 99, 99, 99, 99, 99, 99, 99].getD i 99
theorem z_m7 {w : Int32} (hw : HiZ w) : IsSel gz_m7 w (8 + (((j_ushr w 7) &&& 31) &&& 7)) := sel_of (sel_cut hw (sel_add (sel_const w 8) (sel_and _ (sel_and _ (sel_ushr 7 (by decide) (sel_self w)))) (by decide +kernel))) (by decide +kernel)
def gz_i4 (i : Nat) : Nat := [99, 99, 6, 5, 11, 12, 7, 8, 9, 10, 99, 99, 99, 99, 99, 99, 99, 99, 99, 99, 99, 99, 99, 99, 99, 99, 99, 99, 99, 99, 99, 99].getD i 99
theorem z_i4 {w : Int32} (hw : HiZ w) : IsSel gz_i4 w (((((cF_Word_part w 11 2 4) ||| (cF_Word_part w 7 4 6)) ||| (cF_Word_part w 6 1 2)) ||| (cF_Word_part w 5 1 3))) := sel_of (sel_cut hw (sel_or (sel_or (sel_or (sel_shl 4 (by decide) (sel_and _ (sel_ushr 11 (by decide) (sel_self w)))) (sel_shl 6 (by decide) (sel_and _ (sel_ushr 7 (by decide) (sel_self w)))) (by decide +kernel)) (sel_shl 2 (by decide) (sel_and _ (sel_ushr 6 (by decide) (sel_self w)))) (by decide +kernel)) (sel_shl 3 (by decide) (sel_and _ (sel_ushr 5 (by decide) (sel_self w)))) (by decide +kernel))) (by decide +kernel)
def gz_iF (i : Nat) : Nat := [99, 99, 6, 10, 11, 12, 5, 99, 99, 99, 99, 99, 99, 99, 99, 99, 99, 99, 99, 99, 99, 99, 99, 99, 99, 99, 99, 99, 99, 99, 99, 99].getD i 99
theorem z_iF {w : Int32} (hw : HiZ w) : IsSel gz_iF w ((((cF_Word_part w 10 3 3) ||| (cF_Word_part w 6 1 2)) ||| (cF_Word_part w 5 1 6))) := sel_of (sel_cut hw (sel_or (sel_or (sel_shl 3 (by decide) (sel_and _ (sel_ushr 10 (by decide) (sel_self w)))) (sel_shl 2 (by decide) (sel_and _ (sel_ushr 6 (by decide) (sel_self w)))) (by decide +kernel)) (sel_shl 6 (by decide) (sel_and _ (sel_ushr 5 (by decide) (sel_self w)))) (by decide +kernel))) (by decide +kernel)
def gz_six (i : Nat) : Nat := [2, 3, 4, 5, 6, 12, 12, 12, 12, 12, 12, 12, 12, 12, 12, 12, 12, 12, 12, 12, 12, 12, 12, 12, 12, 12, 12, 12, 12, 12, 12, 12].getD i 99
theorem z_six {w : Int32} (hw : HiZ w) : IsSel gz_six w (cF_ShortForm_sixBits w) := sel_of (sel_cut hw (sel_sar 26 (by decide) (sel_shl 26 (by decide) (sel_or (sel_shl 5 (by decide) (sel_and _ (sel_ushr 12 (by decide) (sel_self w)))) (sel_shl 0 (by decide) (sel_and _ (sel_ushr 2 (by decide) (sel_self w)))) (by decide +kernel))))) (by decide +kernel)
def gz_ij (i : Nat) : Nat := [99, 3, 4, 5, 11, 2, 7, 6, 9, 10, 8, 12, 12, 12, 12, 12, 12, 12, 12, 12, 12, 12, 12, 12, 12, 12, 12, 12, 12, 12, 12, 12].getD i 99
theorem z_ij {w : Int32} (hw : HiZ w) : IsSel gz_ij w (cF_ShortForm_immediateOfJump w) := sel_of (sel_cut hw (sel_sar 20 (by decide) (sel_shl 20 (by decide) (sel_or (sel_or (sel_or (sel_or (sel_or (sel_or (sel_or (sel_shl 11 (by decide) (sel_and _ (sel_ushr 12 (by decide) (sel_self w)))) (sel_shl 4 (by decide) (sel_and _ (sel_ushr 11 (by decide) (sel_self w)))) (by decide +kernel)) (sel_shl 8 (by decide) (sel_and _ (sel_ushr 9 (by decide) (sel_self w)))) (by decide +kernel)) (sel_shl 10 (by decide) (sel_and _ (sel_ushr 8 (by decide) (sel_self w)))) (by decide +kernel)) (sel_shl 6 (by decide) (sel_and _ (sel_ushr 7 (by decide) (sel_self w)))) (by decide +kernel)) (sel_shl 7 (by decide) (sel_and _ (sel_ushr 6 (by decide) (sel_self w)))) (by decide +kernel)) (sel_shl 1 (by decide) (sel_and _ (sel_ushr 3 (by decide) (sel_self w)))) (by decide +kernel)) (sel_shl 5 (by decide) (sel_and _ (sel_ushr 2 (by decide) (sel_self w)))) (by decide +kernel))))) (by decide +kernel)
def gz_ib (i : Nat) : Nat := [99, 3, 4, 10, 11, 2, 5, 6, 12, 12, 12, 12, 12, 12, 12, 12, 12, 12, 12, 12, 12, 12, 12, 12, 12, 12, 12, 12, 12, 12, 12, 12].getD i 99
theorem z_ib {w : Int32} (hw : HiZ w) : IsSel gz_ib w (cF_ShortForm_immediateOfBranch w) := sel_of (sel_cut hw (sel_sar 23 (by decide) (sel_shl 23 (by decide) (sel_or (sel_or (sel_or (sel_or (sel_shl 8 (by decide) (sel_and _ (sel_ushr 12 (by decide) (sel_self w)))) (sel_shl 3 (by decide) (sel_and _ (sel_ushr 10 (by decide) (sel_self w)))) (by decide +kernel)) (sel_shl 6 (by decide) (sel_and _ (sel_ushr 5 (by decide) (sel_self w)))) (by decide +kernel)) (sel_shl 1 (by decide) (sel_and _ (sel_ushr 3 (by decide) (sel_self w)))) (by decide +kernel)) (sel_shl 5 (by decide) (sel_and _ (sel_ushr 2 (by decide) (sel_self w)))) (by decide +kernel))))) (by decide +kernel)
def gz_mv (i : Nat) : Nat := [99, 99, 99, 99, 6, 2, 5, 3, 4, 12, 12, 12, 12, 12, 12, 12, 12, 12, 12, 12, 12, 12, 12, 12, 12, 12, 12, 12, 12, 12, 12, 12].getD i 99
theorem z_mv {w : Int32} (hw : HiZ w) : IsSel gz_mv w (cF_Word_signed (((((cF_Word_part w 12 1 9) ||| (cF_Word_part w 6 1 4)) ||| (cF_Word_part w 5 1 6)) ||| (cF_Word_part w 3 2 7)) ||| (cF_Word_part w 2 1 5)) 10) := sel_of (sel_cut hw (sel_sar 22 (by decide) (sel_shl 22 (by decide) (sel_or (sel_or (sel_or (sel_or (sel_shl 9 (by decide) (sel_and _ (sel_ushr 12 (by decide) (sel_self w)))) (sel_shl 4 (by decide) (sel_and _ (sel_ushr 6 (by decide) (sel_self w)))) (by decide +kernel)) (sel_shl 6 (by decide) (sel_and _ (sel_ushr 5 (by decide) (sel_self w)))) (by decide +kernel)) (sel_shl 7 (by decide) (sel_and _ (sel_ushr 3 (by decide) (sel_self w)))) (by decide +kernel)) (sel_shl 5 (by decide) (sel_and _ (sel_ushr 2 (by decide) (sel_self w)))) (by decide +kernel))))) (by decide +kernel)
def gz_il (i : Nat) : Nat := [99, 99, 4, 5, 6, 12, 2, 3, 99, 99, 99, 99, 99, 99, 99, 99, 99, 99, 99, 99, 99, 99, 99, 99, 99, 99, 99, 99, 99, 99, 99, 99].getD i 99
theorem z_il {w : Int32} (hw : HiZ w) : IsSel gz_il w ((((cF_Word_part w 12 1 5) ||| (cF_Word_part w 4 3 2)) ||| (cF_Word_part w 2 2 6))) := sel_of (sel_cut hw (sel_or (sel_or (sel_shl 5 (by decide) (sel_and _ (sel_ushr 12 (by decide) (sel_self w)))) (sel_shl 2 (by decide) (sel_and _ (sel_ushr 4 (by decide) (sel_self w)))) (by decide +kernel)) (sel_shl 6 (by decide) (sel_and _ (sel_ushr 2 (by decide) (sel_self w)))) (by decide +kernel))) (by decide +kernel)
def gz_iss (i : Nat) : Nat := [99, 99, 9, 10, 11, 12, 7, 8, 99, 99, 99, 99, 99, 99, 99, 99, 99, 99, 99, 99, 99, 99, 99, 99, 99, 99, 99, 99, 99, 99, 99, 99].getD i 99
theorem z_iss {w : Int32} (hw : HiZ w) : IsSel gz_iss w (cF_ShortForm_immediateOfStackStore w) := sel_of (sel_cut hw (sel_or (sel_shl 2 (by decide) (sel_and _ (sel_ushr 9 (by decide) (sel_self w)))) (sel_shl 6 (by decide) (sel_and _ (sel_ushr 7 (by decide) (sel_self w)))) (by decide +kernel))) (by decide +kernel)
def gz_lui (i : Nat) : Nat := [2, 3, 4, 5, 6, 12, 12, 12, 12, 12, 12, 12, 12, 12, 12, 12, 12, 12, 12, 12, 99, 99, 99, 99, 99, 99, 99, 99, 99, 99, 99, 99].getD i 99
theorem z_lui {w : Int32} (hw : HiZ w) : IsSel gz_lui w (cF_ShortForm_sixBits w &&& 1048575) := sel_of (sel_cut hw (sel_and 1048575 (sel_sar 26 (by decide) (sel_shl 26 (by decide) (sel_or (sel_shl 5 (by decide) (sel_and _ (sel_ushr 12 (by decide) (sel_self w)))) (sel_shl 0 (by decide) (sel_and _ (sel_ushr 2 (by decide) (sel_self w)))) (by decide +kernel)))))) (by decide +kernel)
theorem z_six0 {w : Int32} (hw : HiZ w) (hT : (j_ushr w 12) &&& 1 = 0) : IsSel gz_xe w (cF_ShortForm_sixBits w) := by
  have h12 : w.toBitVec.getLsbD 12 = false := by
    have h := z_xT hw 0 (by decide)
    rw [hT, show gz_xT 0 = 12 from by decide, gb_lt (by decide)] at h
    rw [← h]
    decide
  intro i hi
  rw [z_six hw i hi]
  have h : ∀ i, i < 32 → gz_six i = 12 ∧ gz_xe i = 99 ∨ gz_six i = gz_xe i := by decide +kernel
  rcases h i hi with ⟨e1, e2⟩ | e
  · rw [e1, e2, gb_99, gb_lt (by decide), h12]
  · rw [e]
theorem rs_0 {w : Int32} (h : w &&& 3 = 0) : cF_ShortForm_read w = (2, cF_ShortForm_readFirst (-1) 0 0 0 0 w) := by
  rw [cF_ShortForm_read, cF_ShortForm_read_1, if_pos h]
  rfl
theorem rs_1 {w : Int32} (h : w &&& 3 = 1) : cF_ShortForm_read w = (2, cF_ShortForm_readSecond (-1) 0 0 0 0 w) := by
  rw [cF_ShortForm_read, cF_ShortForm_read_1, if_neg (by rw [h]; decide), if_pos h]
  rfl
theorem rs_2 {w : Int32} (h : w &&& 3 = 2) : cF_ShortForm_read w = (2, cF_ShortForm_readThird (-1) 0 0 0 0 w) := by
  rw [cF_ShortForm_read, cF_ShortForm_read_1, if_neg (by rw [h]; decide), if_neg (by rw [h]; decide), if_pos h]
  rfl
theorem rs_3 {w : Int32} (h : w &&& 3 = 3) : (cF_ShortForm_read w).2.1 = -1 := by
  rw [cF_ShortForm_read, cF_ShortForm_read_1, if_neg (by rw [h]; decide), if_neg (by rw [h]; decide), if_neg (by rw [h]; decide)]
  rfl
theorem ev_48 {w : Int32} (h_x3 : w &&& 3 = 0) (h_xH : j_ushr w 13 = 0) (n_i4 : ¬ ((((cF_Word_part w 11 2 4) ||| (cF_Word_part w 7 4 6)) ||| (cF_Word_part w 6 1 2)) ||| (cF_Word_part w 5 1 3)) = 0) : cF_ShortForm_read w = (2, nI 18, (8 + ((j_ushr w 2) &&& 7)), 2, 0, (((((cF_Word_part w 11 2 4) ||| (cF_Word_part w 7 4 6)) ||| (cF_Word_part w 6 1 2)) ||| (cF_Word_part w 5 1 3)))) := by
  rw [rs_0 h_x3, cF_ShortForm_readFirst, if_pos h_xH, cF_ShortForm_readStackAddress, if_neg n_i4]
  rfl
theorem sb_48 {w : Int32} {P : Nat → Int32} (hw : HiZ w) (h : FT 48 w P) : RS 48 18 w := by
  have g := (gs_48 h.2.1).mp h.2.2
  have h_x3 : w &&& 3 = 0 := mt_val h.1 (z_x3 hw) (by decide +kernel)
  have h_xH : j_ushr w 13 = 0 := mt_val h.1 (z_xH hw) (by decide +kernel)
  have n_i4 : ¬ ((((cF_Word_part w 11 2 4) ||| (cF_Word_part w 7 4 6)) ||| (cF_Word_part w 6 1 2)) ||| (cF_Word_part w 5 1 3)) = 0 := ne_of (h.2.1 3 (by decide)) g.2.2.2 (z_i4 hw) (by decide +kernel)
  exact ⟨_, _, _, _, ev_48 h_x3 h_xH n_i4, sel_of (z_n2 hw) (by decide +kernel), sel_of (sel_const w 2) (by decide +kernel), sel_of (sel_const w 0) (by decide +kernel), sel_of (z_i4 hw) (by decide +kernel)⟩
theorem sa_48 {w : Int32} (hw : HiZ w) (h_x3 : w &&& 3 = 0) (h_xH : j_ushr w 13 = 0) (n_i4 : ¬ ((((cF_Word_part w 11 2 4) ||| (cF_Word_part w 7 4 6)) ||| (cF_Word_part w 6 1 2)) ||| (cF_Word_part w 5 1 3)) = 0) : ∃ P, FT 48 w P := by
  have hm : MTf 48 w 0 := mt_of2 (z_x3 hw) h_x3 (z_xH hw) h_xH (by decide +kernel)
  obtain ⟨P, e, hP⟩ := (take_all (k := 48) (by decide) w (fun _ => 0)).1 hm
  exact ⟨P, hm, hP, (gs_48 hP).mpr ⟨trivial, trivial, trivial, ne_of (z_i4 hw) n_i4 (hP 3 (by decide)) (by decide +kernel)⟩⟩
theorem ev_49 {w : Int32} (h_x3 : w &&& 3 = 0) (h_xH : j_ushr w 13 = 2) : cF_ShortForm_read w = (2, nI 12, (8 + ((j_ushr w 2) &&& 7)), (8 + ((j_ushr w 7) &&& 7)), 0, ((((cF_Word_part w 10 3 3) ||| (cF_Word_part w 6 1 2)) ||| (cF_Word_part w 5 1 6)))) := by
  rw [rs_0 h_x3, cF_ShortForm_readFirst, if_neg (show ¬ j_ushr w 13 = 0 by rw [h_xH]; decide), if_pos h_xH]
  rfl
theorem sb_49 {w : Int32} {P : Nat → Int32} (hw : HiZ w) (h : FT 49 w P) : RS 49 12 w := by
  have g := (gs_49 h.2.1).mp h.2.2
  have h_x3 : w &&& 3 = 0 := mt_val h.1 (z_x3 hw) (by decide +kernel)
  have h_xH : j_ushr w 13 = 2 := mt_val h.1 (z_xH hw) (by decide +kernel)
  exact ⟨_, _, _, _, ev_49 h_x3 h_xH, sel_of (z_n2 hw) (by decide +kernel), sel_of (z_n7 hw) (by decide +kernel), sel_of (sel_const w 0) (by decide +kernel), sel_of (z_iF hw) (by decide +kernel)⟩
theorem sa_49 {w : Int32} (hw : HiZ w) (h_x3 : w &&& 3 = 0) (h_xH : j_ushr w 13 = 2) : ∃ P, FT 49 w P := by
  have hm : MTf 49 w 0 := mt_of2 (z_x3 hw) h_x3 (z_xH hw) h_xH (by decide +kernel)
  obtain ⟨P, e, hP⟩ := (take_all (k := 49) (by decide) w (fun _ => 0)).1 hm
  exact ⟨P, hm, hP, (gs_49 hP).mpr ⟨trivial, trivial, trivial, trivial⟩⟩
theorem ev_50 {w : Int32} (h_x3 : w &&& 3 = 0) (h_xH : j_ushr w 13 = 6) : cF_ShortForm_read w = (2, nI 17, 0, (8 + ((j_ushr w 7) &&& 7)), (8 + ((j_ushr w 2) &&& 7)), ((((cF_Word_part w 10 3 3) ||| (cF_Word_part w 6 1 2)) ||| (cF_Word_part w 5 1 6)))) := by
  rw [rs_0 h_x3, cF_ShortForm_readFirst, if_neg (show ¬ j_ushr w 13 = 0 by rw [h_xH]; decide), if_neg (show ¬ j_ushr w 13 = 2 by rw [h_xH]; decide), if_pos h_xH]
  rfl
theorem sb_50 {w : Int32} {P : Nat → Int32} (hw : HiZ w) (h : FT 50 w P) : RS 50 17 w := by
  have g := (gs_50 h.2.1).mp h.2.2
  have h_x3 : w &&& 3 = 0 := mt_val h.1 (z_x3 hw) (by decide +kernel)
  have h_xH : j_ushr w 13 = 6 := mt_val h.1 (z_xH hw) (by decide +kernel)
  exact ⟨_, _, _, _, ev_50 h_x3 h_xH, sel_of (sel_const w 0) (by decide +kernel), sel_of (z_n7 hw) (by decide +kernel), sel_of (z_n2 hw) (by decide +kernel), sel_of (z_iF hw) (by decide +kernel)⟩
theorem sa_50 {w : Int32} (hw : HiZ w) (h_x3 : w &&& 3 = 0) (h_xH : j_ushr w 13 = 6) : ∃ P, FT 50 w P := by
  have hm : MTf 50 w 0 := mt_of2 (z_x3 hw) h_x3 (z_xH hw) h_xH (by decide +kernel)
  obtain ⟨P, e, hP⟩ := (take_all (k := 50) (by decide) w (fun _ => 0)).1 hm
  exact ⟨P, hm, hP, (gs_50 hP).mpr ⟨trivial, trivial, trivial, trivial⟩⟩
theorem ev_51 {w : Int32} (h_x3 : w &&& 3 = 1) (h_xH : j_ushr w 13 = 0) (h_w : w = 1) : cF_ShortForm_read w = (2, nI 18, ((j_ushr w 7) &&& 31), ((j_ushr w 7) &&& 31), 0, (cF_ShortForm_sixBits w)) := by
  rw [rs_1 h_x3, cF_ShortForm_readSecond, if_pos h_xH, cF_ShortForm_readAddition, if_pos h_w]
  rfl
theorem sb_51 {w : Int32} {P : Nat → Int32} (hw : HiZ w) (h : FT 51 w P) : RS 51 18 w := by
  have g := (gs_51 h.2.1).mp h.2.2
  have h_x3 : w &&& 3 = 1 := mt_val h.1 (z_x3 hw) (by decide +kernel)
  have h_xH : j_ushr w 13 = 0 := mt_val h.1 (z_xH hw) (by decide +kernel)
  have h_w : w = 1 := mt_val h.1 (sel_of (sel_cut hw (sel_self w)) (τ := gz_w) (by decide +kernel)) (by decide +kernel)
  have e1 : (j_ushr w 7) &&& 31 = 0 := by rw [h_w]; decide
  have e2 : cF_ShortForm_sixBits w = 0 := by rw [h_w]; decide
  have e3 := ev_51 h_x3 h_xH h_w
  rw [e1, e2] at e3
  exact ⟨_, _, _, _, e3, sel_of (sel_const w 0) (by decide +kernel), sel_of (sel_const w 0) (by decide +kernel), sel_of (sel_const w 0) (by decide +kernel), sel_of (sel_const w 0) (by decide +kernel)⟩
theorem sa_51 {w : Int32} (hw : HiZ w) (h_x3 : w &&& 3 = 1) (h_xH : j_ushr w 13 = 0) (h_w : w = 1) : ∃ P, FT 51 w P := by
  have hm : MTf 51 w 0 := mt_of1 (sel_self w) h_w (by decide +kernel)
  obtain ⟨P, e, hP⟩ := (take_all (k := 51) (by decide) w (fun _ => 0)).1 hm
  exact ⟨P, hm, hP, (gs_51 hP).mpr ⟨trivial, trivial, trivial, trivial⟩⟩
theorem ev_52 {w : Int32} (h_x3 : w &&& 3 = 1) (h_xH : j_ushr w 13 = 0) (n_xd : ¬ (j_ushr w 7) &&& 31 = 0) (n_six : ¬ cF_ShortForm_sixBits w = 0) : cF_ShortForm_read w = (2, nI 18, ((j_ushr w 7) &&& 31), ((j_ushr w 7) &&& 31), 0, (cF_ShortForm_sixBits w)) := by
  have n_w : ¬ w = 1 := fun e => n_xd (by rw [e]; decide)
  rw [rs_1 h_x3, cF_ShortForm_readSecond, if_pos h_xH, cF_ShortForm_readAddition, if_neg n_w, if_neg n_xd, if_neg n_six]
  rfl
theorem sb_52 {w : Int32} {P : Nat → Int32} (hw : HiZ w) (h : FT 52 w P) : RS 52 18 w := by
  have g := (gs_52 h.2.1).mp h.2.2
  have h_x3 : w &&& 3 = 1 := mt_val h.1 (z_x3 hw) (by decide +kernel)
  have h_xH : j_ushr w 13 = 0 := mt_val h.1 (z_xH hw) (by decide +kernel)
  have n_xd : ¬ (j_ushr w 7) &&& 31 = 0 := ne_of (h.2.1 0 (by decide)) g.1 (z_xd hw) (by decide +kernel)
  have n_six : ¬ cF_ShortForm_sixBits w = 0 := ne_of (h.2.1 3 (by decide)) g.2.2.2 (z_six hw) (by decide +kernel)
  exact ⟨_, _, _, _, ev_52 h_x3 h_xH n_xd n_six, sel_of (z_xd hw) (by decide +kernel), sel_of (z_xd hw) (by decide +kernel), sel_of (sel_const w 0) (by decide +kernel), sel_of (z_six hw) (by decide +kernel)⟩
theorem sa_52 {w : Int32} (hw : HiZ w) (h_x3 : w &&& 3 = 1) (h_xH : j_ushr w 13 = 0) (n_xd : ¬ (j_ushr w 7) &&& 31 = 0) (n_six : ¬ cF_ShortForm_sixBits w = 0) : ∃ P, FT 52 w P := by
  have hm : MTf 52 w 0 := mt_of2 (z_x3 hw) h_x3 (z_xH hw) h_xH (by decide +kernel)
  obtain ⟨P, e, hP⟩ := (take_all (k := 52) (by decide) w (fun _ => 0)).1 hm
  exact ⟨P, hm, hP, (gs_52 hP).mpr ⟨ne_of (z_xd hw) n_xd (hP 0 (by decide)) (by decide +kernel), trivial, trivial, ne_of (z_six hw) n_six (hP 3 (by decide)) (by decide +kernel)⟩⟩
theorem ev_53 {w : Int32} (h_x3 : w &&& 3 = 1) (h_xH : j_ushr w 13 = 1) : cF_ShortForm_read w = (2, nI 2, 1, 0, 0, (cF_ShortForm_immediateOfJump w)) := by
  rw [rs_1 h_x3, cF_ShortForm_readSecond, if_neg (show ¬ j_ushr w 13 = 0 by rw [h_xH]; decide), if_pos h_xH]
  rfl
theorem sb_53 {w : Int32} {P : Nat → Int32} (hw : HiZ w) (h : FT 53 w P) : RS 53 2 w := by
  have g := (gs_53 h.2.1).mp h.2.2
  have h_x3 : w &&& 3 = 1 := mt_val h.1 (z_x3 hw) (by decide +kernel)
  have h_xH : j_ushr w 13 = 1 := mt_val h.1 (z_xH hw) (by decide +kernel)
  exact ⟨_, _, _, _, ev_53 h_x3 h_xH, sel_of (sel_const w 1) (by decide +kernel), sel_of (sel_const w 0) (by decide +kernel), sel_of (sel_const w 0) (by decide +kernel), sel_of (z_ij hw) (by decide +kernel)⟩
theorem sa_53 {w : Int32} (hw : HiZ w) (h_x3 : w &&& 3 = 1) (h_xH : j_ushr w 13 = 1) : ∃ P, FT 53 w P := by
  have hm : MTf 53 w 0 := mt_of2 (z_x3 hw) h_x3 (z_xH hw) h_xH (by decide +kernel)
  obtain ⟨P, e, hP⟩ := (take_all (k := 53) (by decide) w (fun _ => 0)).1 hm
  exact ⟨P, hm, hP, (gs_53 hP).mpr ⟨trivial, trivial, trivial, trivial⟩⟩
theorem ev_54 {w : Int32} (h_x3 : w &&& 3 = 1) (h_xH : j_ushr w 13 = 2) (n_xd : ¬ (j_ushr w 7) &&& 31 = 0) : cF_ShortForm_read w = (2, nI 18, ((j_ushr w 7) &&& 31), 0, 0, (cF_ShortForm_sixBits w)) := by
  rw [rs_1 h_x3, cF_ShortForm_readSecond, if_neg (show ¬ j_ushr w 13 = 0 by rw [h_xH]; decide), if_neg (show ¬ j_ushr w 13 = 1 by rw [h_xH]; decide), if_pos h_xH, if_neg n_xd]
  rfl
theorem sb_54 {w : Int32} {P : Nat → Int32} (hw : HiZ w) (h : FT 54 w P) : RS 54 18 w := by
  have g := (gs_54 h.2.1).mp h.2.2
  have h_x3 : w &&& 3 = 1 := mt_val h.1 (z_x3 hw) (by decide +kernel)
  have h_xH : j_ushr w 13 = 2 := mt_val h.1 (z_xH hw) (by decide +kernel)
  have n_xd : ¬ (j_ushr w 7) &&& 31 = 0 := ne_of (h.2.1 0 (by decide)) g.1 (z_xd hw) (by decide +kernel)
  exact ⟨_, _, _, _, ev_54 h_x3 h_xH n_xd, sel_of (z_xd hw) (by decide +kernel), sel_of (sel_const w 0) (by decide +kernel), sel_of (sel_const w 0) (by decide +kernel), sel_of (z_six hw) (by decide +kernel)⟩
theorem sa_54 {w : Int32} (hw : HiZ w) (h_x3 : w &&& 3 = 1) (h_xH : j_ushr w 13 = 2) (n_xd : ¬ (j_ushr w 7) &&& 31 = 0) : ∃ P, FT 54 w P := by
  have hm : MTf 54 w 0 := mt_of2 (z_x3 hw) h_x3 (z_xH hw) h_xH (by decide +kernel)
  obtain ⟨P, e, hP⟩ := (take_all (k := 54) (by decide) w (fun _ => 0)).1 hm
  exact ⟨P, hm, hP, (gs_54 hP).mpr ⟨ne_of (z_xd hw) n_xd (hP 0 (by decide)) (by decide +kernel), trivial, trivial, trivial⟩⟩
theorem ev_55 {w : Int32} (h_x3 : w &&& 3 = 1) (h_xH : j_ushr w 13 = 3) (h_xd : (j_ushr w 7) &&& 31 = 2) (n_six : ¬ cF_ShortForm_sixBits w = 0) : cF_ShortForm_read w = (2, nI 18, 2, 2, 0, (cF_Word_signed (((((cF_Word_part w 12 1 9) ||| (cF_Word_part w 6 1 4)) ||| (cF_Word_part w 5 1 6)) ||| (cF_Word_part w 3 2 7)) ||| (cF_Word_part w 2 1 5)) 10)) := by
  have n_xd : ¬ (j_ushr w 7) &&& 31 = 0 := by rw [h_xd]; decide
  rw [rs_1 h_x3, cF_ShortForm_readSecond, if_neg (show ¬ j_ushr w 13 = 0 by rw [h_xH]; decide), if_neg (show ¬ j_ushr w 13 = 1 by rw [h_xH]; decide), if_neg (show ¬ j_ushr w 13 = 2 by rw [h_xH]; decide), if_pos h_xH, cF_ShortForm_readUpper, if_neg n_xd, if_neg n_six, if_pos h_xd]
  rfl
theorem sb_55 {w : Int32} {P : Nat → Int32} (hw : HiZ w) (h : FT 55 w P) : RS 55 18 w := by
  have g := (gs_55 h.2.1).mp h.2.2
  have h_x3 : w &&& 3 = 1 := mt_val h.1 (z_x3 hw) (by decide +kernel)
  have h_xH : j_ushr w 13 = 3 := mt_val h.1 (z_xH hw) (by decide +kernel)
  have h_xd : (j_ushr w 7) &&& 31 = 2 := mt_val h.1 (z_xd hw) (by decide +kernel)
  have n_six : ¬ cF_ShortForm_sixBits w = 0 := ne_of (h.2.1 3 (by decide)) g.2.2.2 (z_six hw) (by decide +kernel)
  exact ⟨_, _, _, _, ev_55 h_x3 h_xH h_xd n_six, sel_of (sel_const w 2) (by decide +kernel), sel_of (sel_const w 2) (by decide +kernel), sel_of (sel_const w 0) (by decide +kernel), sel_of (z_mv hw) (by decide +kernel)⟩
theorem sa_55 {w : Int32} (hw : HiZ w) (h_x3 : w &&& 3 = 1) (h_xH : j_ushr w 13 = 3) (h_xd : (j_ushr w 7) &&& 31 = 2) (n_six : ¬ cF_ShortForm_sixBits w = 0) : ∃ P, FT 55 w P := by
  have hm : MTf 55 w 0 := mt_of3 (z_x3 hw) h_x3 (z_xH hw) h_xH (z_xd hw) h_xd (by decide +kernel)
  obtain ⟨P, e, hP⟩ := (take_all (k := 55) (by decide) w (fun _ => 0)).1 hm
  exact ⟨P, hm, hP, (gs_55 hP).mpr ⟨trivial, trivial, trivial, ne_of (z_six hw) n_six (hP 3 (by decide)) (by decide +kernel)⟩⟩
theorem ev_56 {w : Int32} (h_x3 : w &&& 3 = 1) (h_xH : j_ushr w 13 = 3) (n_xd : ¬ (j_ushr w 7) &&& 31 = 0) (n_six : ¬ cF_ShortForm_sixBits w = 0) (n_2 : ¬ (j_ushr w 7) &&& 31 = 2) : cF_ShortForm_read w = (2, nI 0, ((j_ushr w 7) &&& 31), 0, 0, (cF_ShortForm_sixBits w &&& 1048575)) := by
  rw [rs_1 h_x3, cF_ShortForm_readSecond, if_neg (show ¬ j_ushr w 13 = 0 by rw [h_xH]; decide), if_neg (show ¬ j_ushr w 13 = 1 by rw [h_xH]; decide), if_neg (show ¬ j_ushr w 13 = 2 by rw [h_xH]; decide), if_pos h_xH, cF_ShortForm_readUpper, if_neg n_xd, if_neg n_six, if_neg n_2]
  rfl
theorem sb_56 {w : Int32} {P : Nat → Int32} (hw : HiZ w) (h : FT 56 w P) : RS 56 0 w := by
  have g := (gs_56 h.2.1).mp h.2.2
  have h_x3 : w &&& 3 = 1 := mt_val h.1 (z_x3 hw) (by decide +kernel)
  have h_xH : j_ushr w 13 = 3 := mt_val h.1 (z_xH hw) (by decide +kernel)
  have n_xd : ¬ (j_ushr w 7) &&& 31 = 0 := ne_of (h.2.1 0 (by decide)) (g.1).1 (z_xd hw) (by decide +kernel)
  have n_six : ¬ cF_ShortForm_sixBits w = 0 := ne_of (h.2.1 3 (by decide)) g.2.2.2 (z_six hw) (by decide +kernel)
  have e0 : P 0 = (j_ushr w 7) &&& 31 := sel_eq (h.2.1 0 (by decide)) (z_xd hw) (by decide +kernel)
  have n_2 : ¬ (j_ushr w 7) &&& 31 = 2 := by rw [← e0]; exact g.1.2
  exact ⟨_, _, _, _, ev_56 h_x3 h_xH n_xd n_six n_2, sel_of (z_xd hw) (by decide +kernel), sel_of (sel_const w 0) (by decide +kernel), sel_of (sel_const w 0) (by decide +kernel), sel_of (z_lui hw) (by decide +kernel)⟩
theorem sa_56 {w : Int32} (hw : HiZ w) (h_x3 : w &&& 3 = 1) (h_xH : j_ushr w 13 = 3) (n_xd : ¬ (j_ushr w 7) &&& 31 = 0) (n_six : ¬ cF_ShortForm_sixBits w = 0) (n_2 : ¬ (j_ushr w 7) &&& 31 = 2) : ∃ P, FT 56 w P := by
  have hm : MTf 56 w 0 := mt_of2 (z_x3 hw) h_x3 (z_xH hw) h_xH (by decide +kernel)
  obtain ⟨P, e, hP⟩ := (take_all (k := 56) (by decide) w (fun _ => 0)).1 hm
  exact ⟨P, hm, hP, (gs_56 hP).mpr ⟨⟨ne_of (z_xd hw) n_xd (hP 0 (by decide)) (by decide +kernel), by rw [sel_eq (hP 0 (by decide)) (z_xd hw) (by decide +kernel)]; exact n_2⟩, trivial, trivial, ne_of (z_six hw) n_six (hP 3 (by decide)) (by decide +kernel)⟩⟩
theorem ev_57 {w : Int32} (h_x3 : w &&& 3 = 1) (h_xH : j_ushr w 13 = 4) (h_xT : (j_ushr w 12) &&& 1 = 0) (h_x10 : (j_ushr w 10) &&& 3 = 0) (n_six : ¬ cF_ShortForm_sixBits w = 0) : cF_ShortForm_read w = (2, nI 25, (8 + ((j_ushr w 7) &&& 7)), (8 + ((j_ushr w 7) &&& 7)), 0, (cF_ShortForm_sixBits w)) := by
  rw [rs_1 h_x3, cF_ShortForm_readSecond, if_neg (show ¬ j_ushr w 13 = 0 by rw [h_xH]; decide), if_neg (show ¬ j_ushr w 13 = 1 by rw [h_xH]; decide), if_neg (show ¬ j_ushr w 13 = 2 by rw [h_xH]; decide), if_neg (show ¬ j_ushr w 13 = 3 by rw [h_xH]; decide), if_pos h_xH, cF_ShortForm_readNearPair, if_pos h_xT, if_pos h_x10, cF_ShortForm_kindOfShift, if_pos rfl, if_neg n_six]
  rfl
theorem sb_57 {w : Int32} {P : Nat → Int32} (hw : HiZ w) (h : FT 57 w P) : RS 57 25 w := by
  have g := (gs_57 h.2.1).mp h.2.2
  have h_x3 : w &&& 3 = 1 := mt_val h.1 (z_x3 hw) (by decide +kernel)
  have h_xH : j_ushr w 13 = 4 := mt_val h.1 (z_xH hw) (by decide +kernel)
  have h_xT : (j_ushr w 12) &&& 1 = 0 := mt_val h.1 (z_xT hw) (by decide +kernel)
  have h_x10 : (j_ushr w 10) &&& 3 = 0 := mt_val h.1 (z_x10 hw) (by decide +kernel)
  have n_six : ¬ cF_ShortForm_sixBits w = 0 := ne_of (h.2.1 3 (by decide)) g.2.2.2 (z_six hw) (by decide +kernel)
  exact ⟨_, _, _, _, ev_57 h_x3 h_xH h_xT h_x10 n_six, sel_of (z_n7 hw) (by decide +kernel), sel_of (z_n7 hw) (by decide +kernel), sel_of (sel_const w 0) (by decide +kernel), sel_of (z_six0 hw h_xT) (by decide +kernel)⟩
theorem sa_57 {w : Int32} (hw : HiZ w) (h_x3 : w &&& 3 = 1) (h_xH : j_ushr w 13 = 4) (h_xT : (j_ushr w 12) &&& 1 = 0) (h_x10 : (j_ushr w 10) &&& 3 = 0) (n_six : ¬ cF_ShortForm_sixBits w = 0) : ∃ P, FT 57 w P := by
  have hm : MTf 57 w 0 := mt_of4 (z_x3 hw) h_x3 (z_xH hw) h_xH (z_xT hw) h_xT (z_x10 hw) h_x10 (by decide +kernel)
  obtain ⟨P, e, hP⟩ := (take_all (k := 57) (by decide) w (fun _ => 0)).1 hm
  exact ⟨P, hm, hP, (gs_57 hP).mpr ⟨trivial, trivial, trivial, ne_of (z_six0 hw h_xT) n_six (hP 3 (by decide)) (by decide +kernel)⟩⟩
theorem ev_58 {w : Int32} (h_x3 : w &&& 3 = 1) (h_xH : j_ushr w 13 = 4) (h_xT : (j_ushr w 12) &&& 1 = 0) (h_x10 : (j_ushr w 10) &&& 3 = 1) (n_six : ¬ cF_ShortForm_sixBits w = 0) : cF_ShortForm_read w = (2, nI 26, (8 + ((j_ushr w 7) &&& 7)), (8 + ((j_ushr w 7) &&& 7)), 0, (cF_ShortForm_sixBits w)) := by
  rw [rs_1 h_x3, cF_ShortForm_readSecond, if_neg (show ¬ j_ushr w 13 = 0 by rw [h_xH]; decide), if_neg (show ¬ j_ushr w 13 = 1 by rw [h_xH]; decide), if_neg (show ¬ j_ushr w 13 = 2 by rw [h_xH]; decide), if_neg (show ¬ j_ushr w 13 = 3 by rw [h_xH]; decide), if_pos h_xH, cF_ShortForm_readNearPair, if_pos h_xT, if_neg (show ¬ (j_ushr w 10) &&& 3 = 0 by rw [h_x10]; decide), if_pos h_x10, cF_ShortForm_kindOfShift, if_pos rfl, if_neg n_six]
  rfl
theorem sb_58 {w : Int32} {P : Nat → Int32} (hw : HiZ w) (h : FT 58 w P) : RS 58 26 w := by
  have g := (gs_58 h.2.1).mp h.2.2
  have h_x3 : w &&& 3 = 1 := mt_val h.1 (z_x3 hw) (by decide +kernel)
  have h_xH : j_ushr w 13 = 4 := mt_val h.1 (z_xH hw) (by decide +kernel)
  have h_xT : (j_ushr w 12) &&& 1 = 0 := mt_val h.1 (z_xT hw) (by decide +kernel)
  have h_x10 : (j_ushr w 10) &&& 3 = 1 := mt_val h.1 (z_x10 hw) (by decide +kernel)
  have n_six : ¬ cF_ShortForm_sixBits w = 0 := ne_of (h.2.1 3 (by decide)) g.2.2.2 (z_six hw) (by decide +kernel)
  exact ⟨_, _, _, _, ev_58 h_x3 h_xH h_xT h_x10 n_six, sel_of (z_n7 hw) (by decide +kernel), sel_of (z_n7 hw) (by decide +kernel), sel_of (sel_const w 0) (by decide +kernel), sel_of (z_six0 hw h_xT) (by decide +kernel)⟩
theorem sa_58 {w : Int32} (hw : HiZ w) (h_x3 : w &&& 3 = 1) (h_xH : j_ushr w 13 = 4) (h_xT : (j_ushr w 12) &&& 1 = 0) (h_x10 : (j_ushr w 10) &&& 3 = 1) (n_six : ¬ cF_ShortForm_sixBits w = 0) : ∃ P, FT 58 w P := by
  have hm : MTf 58 w 0 := mt_of4 (z_x3 hw) h_x3 (z_xH hw) h_xH (z_xT hw) h_xT (z_x10 hw) h_x10 (by decide +kernel)
  obtain ⟨P, e, hP⟩ := (take_all (k := 58) (by decide) w (fun _ => 0)).1 hm
  exact ⟨P, hm, hP, (gs_58 hP).mpr ⟨trivial, trivial, trivial, ne_of (z_six0 hw h_xT) n_six (hP 3 (by decide)) (by decide +kernel)⟩⟩
theorem ev_59 {w : Int32} (h_x3 : w &&& 3 = 1) (h_xH : j_ushr w 13 = 4) (h_x10 : (j_ushr w 10) &&& 3 = 2) : cF_ShortForm_read w = (2, nI 23, (8 + ((j_ushr w 7) &&& 7)), (8 + ((j_ushr w 7) &&& 7)), 0, (cF_ShortForm_sixBits w)) := by
  rcases f1_cases (j_ushr w 12) with e | e
  · rw [rs_1 h_x3, cF_ShortForm_readSecond, if_neg (show ¬ j_ushr w 13 = 0 by rw [h_xH]; decide), if_neg (show ¬ j_ushr w 13 = 1 by rw [h_xH]; decide), if_neg (show ¬ j_ushr w 13 = 2 by rw [h_xH]; decide), if_neg (show ¬ j_ushr w 13 = 3 by rw [h_xH]; decide), if_pos h_xH, cF_ShortForm_readNearPair, if_pos e, if_neg (show ¬ (j_ushr w 10) &&& 3 = 0 by rw [h_x10]; decide), if_neg (show ¬ (j_ushr w 10) &&& 3 = 1 by rw [h_x10]; decide), if_pos h_x10]
    rfl
  · rw [rs_1 h_x3, cF_ShortForm_readSecond, if_neg (show ¬ j_ushr w 13 = 0 by rw [h_xH]; decide), if_neg (show ¬ j_ushr w 13 = 1 by rw [h_xH]; decide), if_neg (show ¬ j_ushr w 13 = 2 by rw [h_xH]; decide), if_neg (show ¬ j_ushr w 13 = 3 by rw [h_xH]; decide), if_pos h_xH, cF_ShortForm_readNearPair, if_neg (show ¬ (j_ushr w 12) &&& 1 = 0 by rw [e]; decide), if_neg (show ¬ (j_ushr w 10) &&& 3 = 0 by rw [h_x10]; decide), if_neg (show ¬ (j_ushr w 10) &&& 3 = 1 by rw [h_x10]; decide), if_pos h_x10]
    rfl
theorem sb_59 {w : Int32} {P : Nat → Int32} (hw : HiZ w) (h : FT 59 w P) : RS 59 23 w := by
  have g := (gs_59 h.2.1).mp h.2.2
  have h_x3 : w &&& 3 = 1 := mt_val h.1 (z_x3 hw) (by decide +kernel)
  have h_xH : j_ushr w 13 = 4 := mt_val h.1 (z_xH hw) (by decide +kernel)
  have h_x10 : (j_ushr w 10) &&& 3 = 2 := mt_val h.1 (z_x10 hw) (by decide +kernel)
  exact ⟨_, _, _, _, ev_59 h_x3 h_xH h_x10, sel_of (z_n7 hw) (by decide +kernel), sel_of (z_n7 hw) (by decide +kernel), sel_of (sel_const w 0) (by decide +kernel), sel_of (z_six hw) (by decide +kernel)⟩
theorem sa_59 {w : Int32} (hw : HiZ w) (h_x3 : w &&& 3 = 1) (h_xH : j_ushr w 13 = 4) (h_x10 : (j_ushr w 10) &&& 3 = 2) : ∃ P, FT 59 w P := by
  have hm : MTf 59 w 0 := mt_of3 (z_x3 hw) h_x3 (z_xH hw) h_xH (z_x10 hw) h_x10 (by decide +kernel)
  obtain ⟨P, e, hP⟩ := (take_all (k := 59) (by decide) w (fun _ => 0)).1 hm
  exact ⟨P, hm, hP, (gs_59 hP).mpr ⟨trivial, trivial, trivial, trivial⟩⟩
theorem ev_60 {w : Int32} (h_x3 : w &&& 3 = 1) (h_xH : j_ushr w 13 = 4) (h_xT : (j_ushr w 12) &&& 1 = 0) (h_x10 : (j_ushr w 10) &&& 3 = 3) (h_x5 : (j_ushr w 5) &&& 3 = 0) : cF_ShortForm_read w = (2, nI 28, (8 + ((j_ushr w 7) &&& 7)), (8 + ((j_ushr w 7) &&& 7)), (8 + ((j_ushr w 2) &&& 7)), 0) := by
  rw [rs_1 h_x3, cF_ShortForm_readSecond, if_neg (show ¬ j_ushr w 13 = 0 by rw [h_xH]; decide), if_neg (show ¬ j_ushr w 13 = 1 by rw [h_xH]; decide), if_neg (show ¬ j_ushr w 13 = 2 by rw [h_xH]; decide), if_neg (show ¬ j_ushr w 13 = 3 by rw [h_xH]; decide), if_pos h_xH, cF_ShortForm_readNearPair, if_pos h_xT, if_neg (show ¬ (j_ushr w 10) &&& 3 = 0 by rw [h_x10]; decide), if_neg (show ¬ (j_ushr w 10) &&& 3 = 1 by rw [h_x10]; decide), if_neg (show ¬ (j_ushr w 10) &&& 3 = 2 by rw [h_x10]; decide), h_x5]
  rfl
theorem sb_60 {w : Int32} {P : Nat → Int32} (hw : HiZ w) (h : FT 60 w P) : RS 60 28 w := by
  have g := (gs_60 h.2.1).mp h.2.2
  have h_x3 : w &&& 3 = 1 := mt_val h.1 (z_x3 hw) (by decide +kernel)
  have h_xH : j_ushr w 13 = 4 := mt_val h.1 (z_xH hw) (by decide +kernel)
  have h_xT : (j_ushr w 12) &&& 1 = 0 := mt_val h.1 (z_xT hw) (by decide +kernel)
  have h_x10 : (j_ushr w 10) &&& 3 = 3 := mt_val h.1 (z_x10 hw) (by decide +kernel)
  have h_x5 : (j_ushr w 5) &&& 3 = 0 := mt_val h.1 (z_x5 hw) (by decide +kernel)
  exact ⟨_, _, _, _, ev_60 h_x3 h_xH h_xT h_x10 h_x5, sel_of (z_n7 hw) (by decide +kernel), sel_of (z_n7 hw) (by decide +kernel), sel_of (z_n2 hw) (by decide +kernel), sel_of (sel_const w 0) (by decide +kernel)⟩
theorem sa_60 {w : Int32} (hw : HiZ w) (h_x3 : w &&& 3 = 1) (h_xH : j_ushr w 13 = 4) (h_xT : (j_ushr w 12) &&& 1 = 0) (h_x10 : (j_ushr w 10) &&& 3 = 3) (h_x5 : (j_ushr w 5) &&& 3 = 0) : ∃ P, FT 60 w P := by
  have hm : MTf 60 w 0 := mt_of5 (z_x3 hw) h_x3 (z_xH hw) h_xH (z_xT hw) h_xT (z_x10 hw) h_x10 (z_x5 hw) h_x5 (by decide +kernel)
  obtain ⟨P, e, hP⟩ := (take_all (k := 60) (by decide) w (fun _ => 0)).1 hm
  exact ⟨P, hm, hP, (gs_60 hP).mpr ⟨trivial, trivial, trivial, trivial⟩⟩
theorem ev_61 {w : Int32} (h_x3 : w &&& 3 = 1) (h_xH : j_ushr w 13 = 4) (h_xT : (j_ushr w 12) &&& 1 = 0) (h_x10 : (j_ushr w 10) &&& 3 = 3) (h_x5 : (j_ushr w 5) &&& 3 = 1) : cF_ShortForm_read w = (2, nI 32, (8 + ((j_ushr w 7) &&& 7)), (8 + ((j_ushr w 7) &&& 7)), (8 + ((j_ushr w 2) &&& 7)), 0) := by
  rw [rs_1 h_x3, cF_ShortForm_readSecond, if_neg (show ¬ j_ushr w 13 = 0 by rw [h_xH]; decide), if_neg (show ¬ j_ushr w 13 = 1 by rw [h_xH]; decide), if_neg (show ¬ j_ushr w 13 = 2 by rw [h_xH]; decide), if_neg (show ¬ j_ushr w 13 = 3 by rw [h_xH]; decide), if_pos h_xH, cF_ShortForm_readNearPair, if_pos h_xT, if_neg (show ¬ (j_ushr w 10) &&& 3 = 0 by rw [h_x10]; decide), if_neg (show ¬ (j_ushr w 10) &&& 3 = 1 by rw [h_x10]; decide), if_neg (show ¬ (j_ushr w 10) &&& 3 = 2 by rw [h_x10]; decide), h_x5]
  rfl
theorem sb_61 {w : Int32} {P : Nat → Int32} (hw : HiZ w) (h : FT 61 w P) : RS 61 32 w := by
  have g := (gs_61 h.2.1).mp h.2.2
  have h_x3 : w &&& 3 = 1 := mt_val h.1 (z_x3 hw) (by decide +kernel)
  have h_xH : j_ushr w 13 = 4 := mt_val h.1 (z_xH hw) (by decide +kernel)
  have h_xT : (j_ushr w 12) &&& 1 = 0 := mt_val h.1 (z_xT hw) (by decide +kernel)
  have h_x10 : (j_ushr w 10) &&& 3 = 3 := mt_val h.1 (z_x10 hw) (by decide +kernel)
  have h_x5 : (j_ushr w 5) &&& 3 = 1 := mt_val h.1 (z_x5 hw) (by decide +kernel)
  exact ⟨_, _, _, _, ev_61 h_x3 h_xH h_xT h_x10 h_x5, sel_of (z_n7 hw) (by decide +kernel), sel_of (z_n7 hw) (by decide +kernel), sel_of (z_n2 hw) (by decide +kernel), sel_of (sel_const w 0) (by decide +kernel)⟩
theorem sa_61 {w : Int32} (hw : HiZ w) (h_x3 : w &&& 3 = 1) (h_xH : j_ushr w 13 = 4) (h_xT : (j_ushr w 12) &&& 1 = 0) (h_x10 : (j_ushr w 10) &&& 3 = 3) (h_x5 : (j_ushr w 5) &&& 3 = 1) : ∃ P, FT 61 w P := by
  have hm : MTf 61 w 0 := mt_of5 (z_x3 hw) h_x3 (z_xH hw) h_xH (z_xT hw) h_xT (z_x10 hw) h_x10 (z_x5 hw) h_x5 (by decide +kernel)
  obtain ⟨P, e, hP⟩ := (take_all (k := 61) (by decide) w (fun _ => 0)).1 hm
  exact ⟨P, hm, hP, (gs_61 hP).mpr ⟨trivial, trivial, trivial, trivial⟩⟩
theorem ev_62 {w : Int32} (h_x3 : w &&& 3 = 1) (h_xH : j_ushr w 13 = 4) (h_xT : (j_ushr w 12) &&& 1 = 0) (h_x10 : (j_ushr w 10) &&& 3 = 3) (h_x5 : (j_ushr w 5) &&& 3 = 2) : cF_ShortForm_read w = (2, nI 35, (8 + ((j_ushr w 7) &&& 7)), (8 + ((j_ushr w 7) &&& 7)), (8 + ((j_ushr w 2) &&& 7)), 0) := by
  rw [rs_1 h_x3, cF_ShortForm_readSecond, if_neg (show ¬ j_ushr w 13 = 0 by rw [h_xH]; decide), if_neg (show ¬ j_ushr w 13 = 1 by rw [h_xH]; decide), if_neg (show ¬ j_ushr w 13 = 2 by rw [h_xH]; decide), if_neg (show ¬ j_ushr w 13 = 3 by rw [h_xH]; decide), if_pos h_xH, cF_ShortForm_readNearPair, if_pos h_xT, if_neg (show ¬ (j_ushr w 10) &&& 3 = 0 by rw [h_x10]; decide), if_neg (show ¬ (j_ushr w 10) &&& 3 = 1 by rw [h_x10]; decide), if_neg (show ¬ (j_ushr w 10) &&& 3 = 2 by rw [h_x10]; decide), h_x5]
  rfl
theorem sb_62 {w : Int32} {P : Nat → Int32} (hw : HiZ w) (h : FT 62 w P) : RS 62 35 w := by
  have g := (gs_62 h.2.1).mp h.2.2
  have h_x3 : w &&& 3 = 1 := mt_val h.1 (z_x3 hw) (by decide +kernel)
  have h_xH : j_ushr w 13 = 4 := mt_val h.1 (z_xH hw) (by decide +kernel)
  have h_xT : (j_ushr w 12) &&& 1 = 0 := mt_val h.1 (z_xT hw) (by decide +kernel)
  have h_x10 : (j_ushr w 10) &&& 3 = 3 := mt_val h.1 (z_x10 hw) (by decide +kernel)
  have h_x5 : (j_ushr w 5) &&& 3 = 2 := mt_val h.1 (z_x5 hw) (by decide +kernel)
  exact ⟨_, _, _, _, ev_62 h_x3 h_xH h_xT h_x10 h_x5, sel_of (z_n7 hw) (by decide +kernel), sel_of (z_n7 hw) (by decide +kernel), sel_of (z_n2 hw) (by decide +kernel), sel_of (sel_const w 0) (by decide +kernel)⟩
theorem sa_62 {w : Int32} (hw : HiZ w) (h_x3 : w &&& 3 = 1) (h_xH : j_ushr w 13 = 4) (h_xT : (j_ushr w 12) &&& 1 = 0) (h_x10 : (j_ushr w 10) &&& 3 = 3) (h_x5 : (j_ushr w 5) &&& 3 = 2) : ∃ P, FT 62 w P := by
  have hm : MTf 62 w 0 := mt_of5 (z_x3 hw) h_x3 (z_xH hw) h_xH (z_xT hw) h_xT (z_x10 hw) h_x10 (z_x5 hw) h_x5 (by decide +kernel)
  obtain ⟨P, e, hP⟩ := (take_all (k := 62) (by decide) w (fun _ => 0)).1 hm
  exact ⟨P, hm, hP, (gs_62 hP).mpr ⟨trivial, trivial, trivial, trivial⟩⟩
theorem ev_63 {w : Int32} (h_x3 : w &&& 3 = 1) (h_xH : j_ushr w 13 = 4) (h_xT : (j_ushr w 12) &&& 1 = 0) (h_x10 : (j_ushr w 10) &&& 3 = 3) (h_x5 : (j_ushr w 5) &&& 3 = 3) : cF_ShortForm_read w = (2, nI 36, (8 + ((j_ushr w 7) &&& 7)), (8 + ((j_ushr w 7) &&& 7)), (8 + ((j_ushr w 2) &&& 7)), 0) := by
  rw [rs_1 h_x3, cF_ShortForm_readSecond, if_neg (show ¬ j_ushr w 13 = 0 by rw [h_xH]; decide), if_neg (show ¬ j_ushr w 13 = 1 by rw [h_xH]; decide), if_neg (show ¬ j_ushr w 13 = 2 by rw [h_xH]; decide), if_neg (show ¬ j_ushr w 13 = 3 by rw [h_xH]; decide), if_pos h_xH, cF_ShortForm_readNearPair, if_pos h_xT, if_neg (show ¬ (j_ushr w 10) &&& 3 = 0 by rw [h_x10]; decide), if_neg (show ¬ (j_ushr w 10) &&& 3 = 1 by rw [h_x10]; decide), if_neg (show ¬ (j_ushr w 10) &&& 3 = 2 by rw [h_x10]; decide), h_x5]
  rfl
theorem sb_63 {w : Int32} {P : Nat → Int32} (hw : HiZ w) (h : FT 63 w P) : RS 63 36 w := by
  have g := (gs_63 h.2.1).mp h.2.2
  have h_x3 : w &&& 3 = 1 := mt_val h.1 (z_x3 hw) (by decide +kernel)
  have h_xH : j_ushr w 13 = 4 := mt_val h.1 (z_xH hw) (by decide +kernel)
  have h_xT : (j_ushr w 12) &&& 1 = 0 := mt_val h.1 (z_xT hw) (by decide +kernel)
  have h_x10 : (j_ushr w 10) &&& 3 = 3 := mt_val h.1 (z_x10 hw) (by decide +kernel)
  have h_x5 : (j_ushr w 5) &&& 3 = 3 := mt_val h.1 (z_x5 hw) (by decide +kernel)
  exact ⟨_, _, _, _, ev_63 h_x3 h_xH h_xT h_x10 h_x5, sel_of (z_n7 hw) (by decide +kernel), sel_of (z_n7 hw) (by decide +kernel), sel_of (z_n2 hw) (by decide +kernel), sel_of (sel_const w 0) (by decide +kernel)⟩
theorem sa_63 {w : Int32} (hw : HiZ w) (h_x3 : w &&& 3 = 1) (h_xH : j_ushr w 13 = 4) (h_xT : (j_ushr w 12) &&& 1 = 0) (h_x10 : (j_ushr w 10) &&& 3 = 3) (h_x5 : (j_ushr w 5) &&& 3 = 3) : ∃ P, FT 63 w P := by
  have hm : MTf 63 w 0 := mt_of5 (z_x3 hw) h_x3 (z_xH hw) h_xH (z_xT hw) h_xT (z_x10 hw) h_x10 (z_x5 hw) h_x5 (by decide +kernel)
  obtain ⟨P, e, hP⟩ := (take_all (k := 63) (by decide) w (fun _ => 0)).1 hm
  exact ⟨P, hm, hP, (gs_63 hP).mpr ⟨trivial, trivial, trivial, trivial⟩⟩
theorem ev_64 {w : Int32} (h_x3 : w &&& 3 = 1) (h_xH : j_ushr w 13 = 5) : cF_ShortForm_read w = (2, nI 2, 0, 0, 0, (cF_ShortForm_immediateOfJump w)) := by
  rw [rs_1 h_x3, cF_ShortForm_readSecond, if_neg (show ¬ j_ushr w 13 = 0 by rw [h_xH]; decide), if_neg (show ¬ j_ushr w 13 = 1 by rw [h_xH]; decide), if_neg (show ¬ j_ushr w 13 = 2 by rw [h_xH]; decide), if_neg (show ¬ j_ushr w 13 = 3 by rw [h_xH]; decide), if_neg (show ¬ j_ushr w 13 = 4 by rw [h_xH]; decide), if_pos h_xH]
  rfl
theorem sb_64 {w : Int32} {P : Nat → Int32} (hw : HiZ w) (h : FT 64 w P) : RS 64 2 w := by
  have g := (gs_64 h.2.1).mp h.2.2
  have h_x3 : w &&& 3 = 1 := mt_val h.1 (z_x3 hw) (by decide +kernel)
  have h_xH : j_ushr w 13 = 5 := mt_val h.1 (z_xH hw) (by decide +kernel)
  exact ⟨_, _, _, _, ev_64 h_x3 h_xH, sel_of (sel_const w 0) (by decide +kernel), sel_of (sel_const w 0) (by decide +kernel), sel_of (sel_const w 0) (by decide +kernel), sel_of (z_ij hw) (by decide +kernel)⟩
theorem sa_64 {w : Int32} (hw : HiZ w) (h_x3 : w &&& 3 = 1) (h_xH : j_ushr w 13 = 5) : ∃ P, FT 64 w P := by
  have hm : MTf 64 w 0 := mt_of2 (z_x3 hw) h_x3 (z_xH hw) h_xH (by decide +kernel)
  obtain ⟨P, e, hP⟩ := (take_all (k := 64) (by decide) w (fun _ => 0)).1 hm
  exact ⟨P, hm, hP, (gs_64 hP).mpr ⟨trivial, trivial, trivial, trivial⟩⟩
theorem ev_65 {w : Int32} (h_x3 : w &&& 3 = 1) (h_xH : j_ushr w 13 = 6) : cF_ShortForm_read w = (2, nI 4, 0, (8 + (((j_ushr w 7) &&& 31) &&& 7)), 0, (cF_ShortForm_immediateOfBranch w)) := by
  rw [rs_1 h_x3, cF_ShortForm_readSecond, if_neg (show ¬ j_ushr w 13 = 0 by rw [h_xH]; decide), if_neg (show ¬ j_ushr w 13 = 1 by rw [h_xH]; decide), if_neg (show ¬ j_ushr w 13 = 2 by rw [h_xH]; decide), if_neg (show ¬ j_ushr w 13 = 3 by rw [h_xH]; decide), if_neg (show ¬ j_ushr w 13 = 4 by rw [h_xH]; decide), if_neg (show ¬ j_ushr w 13 = 5 by rw [h_xH]; decide), if_pos h_xH]
  rfl
theorem sb_65 {w : Int32} {P : Nat → Int32} (hw : HiZ w) (h : FT 65 w P) : RS 65 4 w := by
  have g := (gs_65 h.2.1).mp h.2.2
  have h_x3 : w &&& 3 = 1 := mt_val h.1 (z_x3 hw) (by decide +kernel)
  have h_xH : j_ushr w 13 = 6 := mt_val h.1 (z_xH hw) (by decide +kernel)
  exact ⟨_, _, _, _, ev_65 h_x3 h_xH, sel_of (sel_const w 0) (by decide +kernel), sel_of (z_m7 hw) (by decide +kernel), sel_of (sel_const w 0) (by decide +kernel), sel_of (z_ib hw) (by decide +kernel)⟩
theorem sa_65 {w : Int32} (hw : HiZ w) (h_x3 : w &&& 3 = 1) (h_xH : j_ushr w 13 = 6) : ∃ P, FT 65 w P := by
  have hm : MTf 65 w 0 := mt_of2 (z_x3 hw) h_x3 (z_xH hw) h_xH (by decide +kernel)
  obtain ⟨P, e, hP⟩ := (take_all (k := 65) (by decide) w (fun _ => 0)).1 hm
  exact ⟨P, hm, hP, (gs_65 hP).mpr ⟨trivial, trivial, trivial, trivial⟩⟩
theorem ev_66 {w : Int32} (h_x3 : w &&& 3 = 1) (h_xH : j_ushr w 13 = 7) : cF_ShortForm_read w = (2, nI 5, 0, (8 + (((j_ushr w 7) &&& 31) &&& 7)), 0, (cF_ShortForm_immediateOfBranch w)) := by
  rw [rs_1 h_x3, cF_ShortForm_readSecond, if_neg (show ¬ j_ushr w 13 = 0 by rw [h_xH]; decide), if_neg (show ¬ j_ushr w 13 = 1 by rw [h_xH]; decide), if_neg (show ¬ j_ushr w 13 = 2 by rw [h_xH]; decide), if_neg (show ¬ j_ushr w 13 = 3 by rw [h_xH]; decide), if_neg (show ¬ j_ushr w 13 = 4 by rw [h_xH]; decide), if_neg (show ¬ j_ushr w 13 = 5 by rw [h_xH]; decide), if_neg (show ¬ j_ushr w 13 = 6 by rw [h_xH]; decide), if_pos h_xH]
  rfl
theorem sb_66 {w : Int32} {P : Nat → Int32} (hw : HiZ w) (h : FT 66 w P) : RS 66 5 w := by
  have g := (gs_66 h.2.1).mp h.2.2
  have h_x3 : w &&& 3 = 1 := mt_val h.1 (z_x3 hw) (by decide +kernel)
  have h_xH : j_ushr w 13 = 7 := mt_val h.1 (z_xH hw) (by decide +kernel)
  exact ⟨_, _, _, _, ev_66 h_x3 h_xH, sel_of (sel_const w 0) (by decide +kernel), sel_of (z_m7 hw) (by decide +kernel), sel_of (sel_const w 0) (by decide +kernel), sel_of (z_ib hw) (by decide +kernel)⟩
theorem sa_66 {w : Int32} (hw : HiZ w) (h_x3 : w &&& 3 = 1) (h_xH : j_ushr w 13 = 7) : ∃ P, FT 66 w P := by
  have hm : MTf 66 w 0 := mt_of2 (z_x3 hw) h_x3 (z_xH hw) h_xH (by decide +kernel)
  obtain ⟨P, e, hP⟩ := (take_all (k := 66) (by decide) w (fun _ => 0)).1 hm
  exact ⟨P, hm, hP, (gs_66 hP).mpr ⟨trivial, trivial, trivial, trivial⟩⟩
theorem ev_67 {w : Int32} (h_x3 : w &&& 3 = 2) (h_xH : j_ushr w 13 = 0) (h_xT : (j_ushr w 12) &&& 1 = 0) (n_xd : ¬ (j_ushr w 7) &&& 31 = 0) (n_xe : ¬ (j_ushr w 2) &&& 31 = 0) : cF_ShortForm_read w = (2, nI 24, ((j_ushr w 7) &&& 31), ((j_ushr w 7) &&& 31), 0, ((j_ushr w 2) &&& 31)) := by
  rw [rs_2 h_x3, cF_ShortForm_readThird, if_pos h_xH, cF_ShortForm_shiftUp, if_neg n_xd, if_pos h_xT, cF_ShortForm_kindOfShift, if_pos rfl, if_neg n_xe]
  rfl
theorem sb_67 {w : Int32} {P : Nat → Int32} (hw : HiZ w) (h : FT 67 w P) : RS 67 24 w := by
  have g := (gs_67 h.2.1).mp h.2.2
  have h_x3 : w &&& 3 = 2 := mt_val h.1 (z_x3 hw) (by decide +kernel)
  have h_xH : j_ushr w 13 = 0 := mt_val h.1 (z_xH hw) (by decide +kernel)
  have h_xT : (j_ushr w 12) &&& 1 = 0 := mt_val h.1 (z_xT hw) (by decide +kernel)
  have n_xd : ¬ (j_ushr w 7) &&& 31 = 0 := ne_of (h.2.1 0 (by decide)) g.1 (z_xd hw) (by decide +kernel)
  have n_xe : ¬ (j_ushr w 2) &&& 31 = 0 := ne_of (h.2.1 3 (by decide)) g.2.2.2 (z_xe hw) (by decide +kernel)
  exact ⟨_, _, _, _, ev_67 h_x3 h_xH h_xT n_xd n_xe, sel_of (z_xd hw) (by decide +kernel), sel_of (z_xd hw) (by decide +kernel), sel_of (sel_const w 0) (by decide +kernel), sel_of (z_xe hw) (by decide +kernel)⟩
theorem sa_67 {w : Int32} (hw : HiZ w) (h_x3 : w &&& 3 = 2) (h_xH : j_ushr w 13 = 0) (h_xT : (j_ushr w 12) &&& 1 = 0) (n_xd : ¬ (j_ushr w 7) &&& 31 = 0) (n_xe : ¬ (j_ushr w 2) &&& 31 = 0) : ∃ P, FT 67 w P := by
  have hm : MTf 67 w 0 := mt_of3 (z_x3 hw) h_x3 (z_xH hw) h_xH (z_xT hw) h_xT (by decide +kernel)
  obtain ⟨P, e, hP⟩ := (take_all (k := 67) (by decide) w (fun _ => 0)).1 hm
  exact ⟨P, hm, hP, (gs_67 hP).mpr ⟨ne_of (z_xd hw) n_xd (hP 0 (by decide)) (by decide +kernel), trivial, trivial, ne_of (z_xe hw) n_xe (hP 3 (by decide)) (by decide +kernel)⟩⟩
theorem ev_68 {w : Int32} (h_x3 : w &&& 3 = 2) (h_xH : j_ushr w 13 = 2) (n_xd : ¬ (j_ushr w 7) &&& 31 = 0) : cF_ShortForm_read w = (2, nI 12, ((j_ushr w 7) &&& 31), 2, 0, ((((cF_Word_part w 12 1 5) ||| (cF_Word_part w 4 3 2)) ||| (cF_Word_part w 2 2 6)))) := by
  rw [rs_2 h_x3, cF_ShortForm_readThird, if_neg (show ¬ j_ushr w 13 = 0 by rw [h_xH]; decide), if_neg (show ¬ j_ushr w 13 = 1 by rw [h_xH]; decide), if_pos h_xH, cF_ShortForm_readStackLoad, if_neg n_xd]
  rfl
theorem sb_68 {w : Int32} {P : Nat → Int32} (hw : HiZ w) (h : FT 68 w P) : RS 68 12 w := by
  have g := (gs_68 h.2.1).mp h.2.2
  have h_x3 : w &&& 3 = 2 := mt_val h.1 (z_x3 hw) (by decide +kernel)
  have h_xH : j_ushr w 13 = 2 := mt_val h.1 (z_xH hw) (by decide +kernel)
  have n_xd : ¬ (j_ushr w 7) &&& 31 = 0 := ne_of (h.2.1 0 (by decide)) g.1 (z_xd hw) (by decide +kernel)
  exact ⟨_, _, _, _, ev_68 h_x3 h_xH n_xd, sel_of (z_xd hw) (by decide +kernel), sel_of (sel_const w 2) (by decide +kernel), sel_of (sel_const w 0) (by decide +kernel), sel_of (z_il hw) (by decide +kernel)⟩
theorem sa_68 {w : Int32} (hw : HiZ w) (h_x3 : w &&& 3 = 2) (h_xH : j_ushr w 13 = 2) (n_xd : ¬ (j_ushr w 7) &&& 31 = 0) : ∃ P, FT 68 w P := by
  have hm : MTf 68 w 0 := mt_of2 (z_x3 hw) h_x3 (z_xH hw) h_xH (by decide +kernel)
  obtain ⟨P, e, hP⟩ := (take_all (k := 68) (by decide) w (fun _ => 0)).1 hm
  exact ⟨P, hm, hP, (gs_68 hP).mpr ⟨ne_of (z_xd hw) n_xd (hP 0 (by decide)) (by decide +kernel), trivial, trivial, trivial⟩⟩
theorem ev_69 {w : Int32} (h_x3 : w &&& 3 = 2) (h_xH : j_ushr w 13 = 4) (h_xT : (j_ushr w 12) &&& 1 = 0) (h_xe : (j_ushr w 2) &&& 31 = 0) (n_xd : ¬ (j_ushr w 7) &&& 31 = 0) : cF_ShortForm_read w = (2, nI 3, 0, ((j_ushr w 7) &&& 31), 0, 0) := by
  have n_w : ¬ w = 36866 := fun e => absurd h_xT (by rw [e]; decide)
  rw [rs_2 h_x3, cF_ShortForm_readThird, if_neg (show ¬ j_ushr w 13 = 0 by rw [h_xH]; decide), if_neg (show ¬ j_ushr w 13 = 1 by rw [h_xH]; decide), if_neg (show ¬ j_ushr w 13 = 2 by rw [h_xH]; decide), if_neg (show ¬ j_ushr w 13 = 3 by rw [h_xH]; decide), if_pos h_xH, cF_ShortForm_readPair, if_pos h_xT, if_neg n_w, if_neg n_xd, if_pos h_xe]
  rfl
theorem sb_69 {w : Int32} {P : Nat → Int32} (hw : HiZ w) (h : FT 69 w P) : RS 69 3 w := by
  have g := (gs_69 h.2.1).mp h.2.2
  have h_x3 : w &&& 3 = 2 := mt_val h.1 (z_x3 hw) (by decide +kernel)
  have h_xH : j_ushr w 13 = 4 := mt_val h.1 (z_xH hw) (by decide +kernel)
  have h_xT : (j_ushr w 12) &&& 1 = 0 := mt_val h.1 (z_xT hw) (by decide +kernel)
  have h_xe : (j_ushr w 2) &&& 31 = 0 := mt_val h.1 (z_xe hw) (by decide +kernel)
  have n_xd : ¬ (j_ushr w 7) &&& 31 = 0 := ne_of (h.2.1 1 (by decide)) g.2.1 (z_xd hw) (by decide +kernel)
  exact ⟨_, _, _, _, ev_69 h_x3 h_xH h_xT h_xe n_xd, sel_of (sel_const w 0) (by decide +kernel), sel_of (z_xd hw) (by decide +kernel), sel_of (sel_const w 0) (by decide +kernel), sel_of (sel_const w 0) (by decide +kernel)⟩
theorem sa_69 {w : Int32} (hw : HiZ w) (h_x3 : w &&& 3 = 2) (h_xH : j_ushr w 13 = 4) (h_xT : (j_ushr w 12) &&& 1 = 0) (h_xe : (j_ushr w 2) &&& 31 = 0) (n_xd : ¬ (j_ushr w 7) &&& 31 = 0) : ∃ P, FT 69 w P := by
  have hm : MTf 69 w 0 := mt_of4 (z_x3 hw) h_x3 (z_xH hw) h_xH (z_xT hw) h_xT (z_xe hw) h_xe (by decide +kernel)
  obtain ⟨P, e, hP⟩ := (take_all (k := 69) (by decide) w (fun _ => 0)).1 hm
  exact ⟨P, hm, hP, (gs_69 hP).mpr ⟨trivial, ne_of (z_xd hw) n_xd (hP 1 (by decide)) (by decide +kernel), trivial, trivial⟩⟩
theorem ev_70 {w : Int32} (h_x3 : w &&& 3 = 2) (h_xH : j_ushr w 13 = 4) (h_xT : (j_ushr w 12) &&& 1 = 0) (n_xd : ¬ (j_ushr w 7) &&& 31 = 0) (n_xe : ¬ (j_ushr w 2) &&& 31 = 0) : cF_ShortForm_read w = (2, nI 27, ((j_ushr w 7) &&& 31), 0, ((j_ushr w 2) &&& 31), 0) := by
  have n_w : ¬ w = 36866 := fun e => absurd h_xT (by rw [e]; decide)
  rw [rs_2 h_x3, cF_ShortForm_readThird, if_neg (show ¬ j_ushr w 13 = 0 by rw [h_xH]; decide), if_neg (show ¬ j_ushr w 13 = 1 by rw [h_xH]; decide), if_neg (show ¬ j_ushr w 13 = 2 by rw [h_xH]; decide), if_neg (show ¬ j_ushr w 13 = 3 by rw [h_xH]; decide), if_pos h_xH, cF_ShortForm_readPair, if_pos h_xT, if_neg n_w, if_neg n_xd, if_neg n_xe]
  rfl
theorem sb_70 {w : Int32} {P : Nat → Int32} (hw : HiZ w) (h : FT 70 w P) : RS 70 27 w := by
  have g := (gs_70 h.2.1).mp h.2.2
  have h_x3 : w &&& 3 = 2 := mt_val h.1 (z_x3 hw) (by decide +kernel)
  have h_xH : j_ushr w 13 = 4 := mt_val h.1 (z_xH hw) (by decide +kernel)
  have h_xT : (j_ushr w 12) &&& 1 = 0 := mt_val h.1 (z_xT hw) (by decide +kernel)
  have n_xd : ¬ (j_ushr w 7) &&& 31 = 0 := ne_of (h.2.1 0 (by decide)) g.1 (z_xd hw) (by decide +kernel)
  have n_xe : ¬ (j_ushr w 2) &&& 31 = 0 := ne_of (h.2.1 2 (by decide)) g.2.2.1 (z_xe hw) (by decide +kernel)
  exact ⟨_, _, _, _, ev_70 h_x3 h_xH h_xT n_xd n_xe, sel_of (z_xd hw) (by decide +kernel), sel_of (sel_const w 0) (by decide +kernel), sel_of (z_xe hw) (by decide +kernel), sel_of (sel_const w 0) (by decide +kernel)⟩
theorem sa_70 {w : Int32} (hw : HiZ w) (h_x3 : w &&& 3 = 2) (h_xH : j_ushr w 13 = 4) (h_xT : (j_ushr w 12) &&& 1 = 0) (n_xd : ¬ (j_ushr w 7) &&& 31 = 0) (n_xe : ¬ (j_ushr w 2) &&& 31 = 0) : ∃ P, FT 70 w P := by
  have hm : MTf 70 w 0 := mt_of3 (z_x3 hw) h_x3 (z_xH hw) h_xH (z_xT hw) h_xT (by decide +kernel)
  obtain ⟨P, e, hP⟩ := (take_all (k := 70) (by decide) w (fun _ => 0)).1 hm
  exact ⟨P, hm, hP, (gs_70 hP).mpr ⟨ne_of (z_xd hw) n_xd (hP 0 (by decide)) (by decide +kernel), trivial, ne_of (z_xe hw) n_xe (hP 2 (by decide)) (by decide +kernel), trivial⟩⟩
theorem ev_71 {w : Int32} (h_x3 : w &&& 3 = 2) (h_xH : j_ushr w 13 = 4) (h_w : w = 36866) : cF_ShortForm_read w = (2, nI 47, 0, 0, 0, 0) := by
  have n_xT : ¬ (j_ushr w 12) &&& 1 = 0 := by rw [h_w]; decide
  rw [rs_2 h_x3, cF_ShortForm_readThird, if_neg (show ¬ j_ushr w 13 = 0 by rw [h_xH]; decide), if_neg (show ¬ j_ushr w 13 = 1 by rw [h_xH]; decide), if_neg (show ¬ j_ushr w 13 = 2 by rw [h_xH]; decide), if_neg (show ¬ j_ushr w 13 = 3 by rw [h_xH]; decide), if_pos h_xH, cF_ShortForm_readPair, if_neg n_xT, if_pos h_w]
  rfl
theorem sb_71 {w : Int32} {P : Nat → Int32} (hw : HiZ w) (h : FT 71 w P) : RS 71 47 w := by
  have g := (gs_71 h.2.1).mp h.2.2
  have h_x3 : w &&& 3 = 2 := mt_val h.1 (z_x3 hw) (by decide +kernel)
  have h_xH : j_ushr w 13 = 4 := mt_val h.1 (z_xH hw) (by decide +kernel)
  have h_w : w = 36866 := mt_val h.1 (sel_of (sel_cut hw (sel_self w)) (τ := gz_w) (by decide +kernel)) (by decide +kernel)
  exact ⟨_, _, _, _, ev_71 h_x3 h_xH h_w, sel_of (sel_const w 0) (by decide +kernel), sel_of (sel_const w 0) (by decide +kernel), sel_of (sel_const w 0) (by decide +kernel), sel_of (sel_const w 0) (by decide +kernel)⟩
theorem sa_71 {w : Int32} (hw : HiZ w) (h_x3 : w &&& 3 = 2) (h_xH : j_ushr w 13 = 4) (h_w : w = 36866) : ∃ P, FT 71 w P := by
  have hm : MTf 71 w 0 := mt_of1 (sel_self w) h_w (by decide +kernel)
  obtain ⟨P, e, hP⟩ := (take_all (k := 71) (by decide) w (fun _ => 0)).1 hm
  exact ⟨P, hm, hP, (gs_71 hP).mpr ⟨trivial, trivial, trivial, trivial⟩⟩
theorem ev_72 {w : Int32} (h_x3 : w &&& 3 = 2) (h_xH : j_ushr w 13 = 4) (h_xT : (j_ushr w 12) &&& 1 = 1) (h_xe : (j_ushr w 2) &&& 31 = 0) (n_xd : ¬ (j_ushr w 7) &&& 31 = 0) : cF_ShortForm_read w = (2, nI 3, 1, ((j_ushr w 7) &&& 31), 0, 0) := by
  have n_w : ¬ w = 36866 := fun e => n_xd (by rw [e]; decide)
  rw [rs_2 h_x3, cF_ShortForm_readThird, if_neg (show ¬ j_ushr w 13 = 0 by rw [h_xH]; decide), if_neg (show ¬ j_ushr w 13 = 1 by rw [h_xH]; decide), if_neg (show ¬ j_ushr w 13 = 2 by rw [h_xH]; decide), if_neg (show ¬ j_ushr w 13 = 3 by rw [h_xH]; decide), if_pos h_xH, cF_ShortForm_readPair, if_neg (show ¬ (j_ushr w 12) &&& 1 = 0 by rw [h_xT]; decide), if_neg n_w, if_neg n_xd, if_pos h_xe]
  rfl
theorem sb_72 {w : Int32} {P : Nat → Int32} (hw : HiZ w) (h : FT 72 w P) : RS 72 3 w := by
  have g := (gs_72 h.2.1).mp h.2.2
  have h_x3 : w &&& 3 = 2 := mt_val h.1 (z_x3 hw) (by decide +kernel)
  have h_xH : j_ushr w 13 = 4 := mt_val h.1 (z_xH hw) (by decide +kernel)
  have h_xT : (j_ushr w 12) &&& 1 = 1 := mt_val h.1 (z_xT hw) (by decide +kernel)
  have h_xe : (j_ushr w 2) &&& 31 = 0 := mt_val h.1 (z_xe hw) (by decide +kernel)
  have n_xd : ¬ (j_ushr w 7) &&& 31 = 0 := ne_of (h.2.1 1 (by decide)) g.2.1 (z_xd hw) (by decide +kernel)
  exact ⟨_, _, _, _, ev_72 h_x3 h_xH h_xT h_xe n_xd, sel_of (sel_const w 1) (by decide +kernel), sel_of (z_xd hw) (by decide +kernel), sel_of (sel_const w 0) (by decide +kernel), sel_of (sel_const w 0) (by decide +kernel)⟩
theorem sa_72 {w : Int32} (hw : HiZ w) (h_x3 : w &&& 3 = 2) (h_xH : j_ushr w 13 = 4) (h_xT : (j_ushr w 12) &&& 1 = 1) (h_xe : (j_ushr w 2) &&& 31 = 0) (n_xd : ¬ (j_ushr w 7) &&& 31 = 0) : ∃ P, FT 72 w P := by
  have hm : MTf 72 w 0 := mt_of4 (z_x3 hw) h_x3 (z_xH hw) h_xH (z_xT hw) h_xT (z_xe hw) h_xe (by decide +kernel)
  obtain ⟨P, e, hP⟩ := (take_all (k := 72) (by decide) w (fun _ => 0)).1 hm
  exact ⟨P, hm, hP, (gs_72 hP).mpr ⟨trivial, ne_of (z_xd hw) n_xd (hP 1 (by decide)) (by decide +kernel), trivial, trivial⟩⟩
theorem ev_73 {w : Int32} (h_x3 : w &&& 3 = 2) (h_xH : j_ushr w 13 = 4) (h_xT : (j_ushr w 12) &&& 1 = 1) (n_xd : ¬ (j_ushr w 7) &&& 31 = 0) (n_xe : ¬ (j_ushr w 2) &&& 31 = 0) : cF_ShortForm_read w = (2, nI 27, ((j_ushr w 7) &&& 31), ((j_ushr w 7) &&& 31), ((j_ushr w 2) &&& 31), 0) := by
  have n_w : ¬ w = 36866 := fun e => n_xd (by rw [e]; decide)
  rw [rs_2 h_x3, cF_ShortForm_readThird, if_neg (show ¬ j_ushr w 13 = 0 by rw [h_xH]; decide), if_neg (show ¬ j_ushr w 13 = 1 by rw [h_xH]; decide), if_neg (show ¬ j_ushr w 13 = 2 by rw [h_xH]; decide), if_neg (show ¬ j_ushr w 13 = 3 by rw [h_xH]; decide), if_pos h_xH, cF_ShortForm_readPair, if_neg (show ¬ (j_ushr w 12) &&& 1 = 0 by rw [h_xT]; decide), if_neg n_w, if_neg n_xd, if_neg n_xe]
  rfl
theorem sb_73 {w : Int32} {P : Nat → Int32} (hw : HiZ w) (h : FT 73 w P) : RS 73 27 w := by
  have g := (gs_73 h.2.1).mp h.2.2
  have h_x3 : w &&& 3 = 2 := mt_val h.1 (z_x3 hw) (by decide +kernel)
  have h_xH : j_ushr w 13 = 4 := mt_val h.1 (z_xH hw) (by decide +kernel)
  have h_xT : (j_ushr w 12) &&& 1 = 1 := mt_val h.1 (z_xT hw) (by decide +kernel)
  have n_xd : ¬ (j_ushr w 7) &&& 31 = 0 := ne_of (h.2.1 0 (by decide)) g.1 (z_xd hw) (by decide +kernel)
  have n_xe : ¬ (j_ushr w 2) &&& 31 = 0 := ne_of (h.2.1 2 (by decide)) g.2.2.1 (z_xe hw) (by decide +kernel)
  exact ⟨_, _, _, _, ev_73 h_x3 h_xH h_xT n_xd n_xe, sel_of (z_xd hw) (by decide +kernel), sel_of (z_xd hw) (by decide +kernel), sel_of (z_xe hw) (by decide +kernel), sel_of (sel_const w 0) (by decide +kernel)⟩
theorem sa_73 {w : Int32} (hw : HiZ w) (h_x3 : w &&& 3 = 2) (h_xH : j_ushr w 13 = 4) (h_xT : (j_ushr w 12) &&& 1 = 1) (n_xd : ¬ (j_ushr w 7) &&& 31 = 0) (n_xe : ¬ (j_ushr w 2) &&& 31 = 0) : ∃ P, FT 73 w P := by
  have hm : MTf 73 w 0 := mt_of3 (z_x3 hw) h_x3 (z_xH hw) h_xH (z_xT hw) h_xT (by decide +kernel)
  obtain ⟨P, e, hP⟩ := (take_all (k := 73) (by decide) w (fun _ => 0)).1 hm
  exact ⟨P, hm, hP, (gs_73 hP).mpr ⟨ne_of (z_xd hw) n_xd (hP 0 (by decide)) (by decide +kernel), trivial, ne_of (z_xe hw) n_xe (hP 2 (by decide)) (by decide +kernel), trivial⟩⟩
theorem ev_74 {w : Int32} (h_x3 : w &&& 3 = 2) (h_xH : j_ushr w 13 = 6) : cF_ShortForm_read w = (2, nI 17, 0, 2, ((j_ushr w 2) &&& 31), (cF_ShortForm_immediateOfStackStore w)) := by
  rw [rs_2 h_x3, cF_ShortForm_readThird, if_neg (show ¬ j_ushr w 13 = 0 by rw [h_xH]; decide), if_neg (show ¬ j_ushr w 13 = 1 by rw [h_xH]; decide), if_neg (show ¬ j_ushr w 13 = 2 by rw [h_xH]; decide), if_neg (show ¬ j_ushr w 13 = 3 by rw [h_xH]; decide), if_neg (show ¬ j_ushr w 13 = 4 by rw [h_xH]; decide), if_neg (show ¬ j_ushr w 13 = 5 by rw [h_xH]; decide), if_pos h_xH]
  rfl
theorem sb_74 {w : Int32} {P : Nat → Int32} (hw : HiZ w) (h : FT 74 w P) : RS 74 17 w := by
  have g := (gs_74 h.2.1).mp h.2.2
  have h_x3 : w &&& 3 = 2 := mt_val h.1 (z_x3 hw) (by decide +kernel)
  have h_xH : j_ushr w 13 = 6 := mt_val h.1 (z_xH hw) (by decide +kernel)
  exact ⟨_, _, _, _, ev_74 h_x3 h_xH, sel_of (sel_const w 0) (by decide +kernel), sel_of (sel_const w 2) (by decide +kernel), sel_of (z_xe hw) (by decide +kernel), sel_of (z_iss hw) (by decide +kernel)⟩
theorem sa_74 {w : Int32} (hw : HiZ w) (h_x3 : w &&& 3 = 2) (h_xH : j_ushr w 13 = 6) : ∃ P, FT 74 w P := by
  have hm : MTf 74 w 0 := mt_of2 (z_x3 hw) h_x3 (z_xH hw) h_xH (by decide +kernel)
  obtain ⟨P, e, hP⟩ := (take_all (k := 74) (by decide) w (fun _ => 0)).1 hm
  exact ⟨P, hm, hP, (gs_74 hP).mpr ⟨trivial, trivial, trivial, trivial⟩⟩
def KN (k : Nat) : Nat := [18, 12, 17, 18, 18, 2, 18, 18, 0, 25, 26, 23, 28, 32, 35, 36, 2, 4, 5, 24, 12, 3, 27, 47, 3, 27, 17].getD (k - 48) 0
theorem sb_all {k : Nat} {w : Int32} {P : Nat → Int32} (hw : HiZ w) (h1 : 48 ≤ k) (h2 : k < 75) (h : FT k w P) : RS k (KN k) w ∧ KN k < 48 ∧ ∃ l Q R, mF_StepMachineModel_stretch P (nI k) = (l, Q) ∧ mF_StepMachineModel_find Q l = (nI (KN k), R) ∧ ∀ p, p < 4 → IsSel (CT k (KN k) p) w (R p) := by
  rcases (show k = 48 ∨ k = 49 ∨ k = 50 ∨ k = 51 ∨ k = 52 ∨ k = 53 ∨ k = 54 ∨ k = 55 ∨ k = 56 ∨ k = 57 ∨ k = 58 ∨ k = 59 ∨ k = 60 ∨ k = 61 ∨ k = 62 ∨ k = 63 ∨ k = 64 ∨ k = 65 ∨ k = 66 ∨ k = 67 ∨ k = 68 ∨ k = 69 ∨ k = 70 ∨ k = 71 ∨ k = 72 ∨ k = 73 ∨ k = 74 by omega) with e | e | e | e | e | e | e | e | e | e | e | e | e | e | e | e | e | e | e | e | e | e | e | e | e | e | e <;> subst e
  · exact ⟨sb_48 hw h, by decide, sr_of (K := 18) (by decide) (by decide) (st_48 h.2.1)⟩
  · exact ⟨sb_49 hw h, by decide, sr_of (K := 12) (by decide) (by decide) (st_49 h.2.1)⟩
  · exact ⟨sb_50 hw h, by decide, sr_of (K := 17) (by decide) (by decide) (st_50 h.2.1)⟩
  · exact ⟨sb_51 hw h, by decide, sr_of (K := 18) (by decide) (by decide) (st_51 h.2.1)⟩
  · exact ⟨sb_52 hw h, by decide, sr_of (K := 18) (by decide) (by decide) (st_52 h.2.1)⟩
  · exact ⟨sb_53 hw h, by decide, sr_of (K := 2) (by decide) (by decide) (st_53 h.2.1)⟩
  · exact ⟨sb_54 hw h, by decide, sr_of (K := 18) (by decide) (by decide) (st_54 h.2.1)⟩
  · exact ⟨sb_55 hw h, by decide, sr_of (K := 18) (by decide) (by decide) (st_55 h.2.1)⟩
  · exact ⟨sb_56 hw h, by decide, sr_of (K := 0) (by decide) (by decide) (st_56 h.2.1)⟩
  · exact ⟨sb_57 hw h, by decide, sr_of (K := 25) (by decide) (by decide) (st_57 h.2.1)⟩
  · exact ⟨sb_58 hw h, by decide, sr_of (K := 26) (by decide) (by decide) (st_58 h.2.1)⟩
  · exact ⟨sb_59 hw h, by decide, sr_of (K := 23) (by decide) (by decide) (st_59 h.2.1)⟩
  · exact ⟨sb_60 hw h, by decide, sr_of (K := 28) (by decide) (by decide) (st_60 h.2.1)⟩
  · exact ⟨sb_61 hw h, by decide, sr_of (K := 32) (by decide) (by decide) (st_61 h.2.1)⟩
  · exact ⟨sb_62 hw h, by decide, sr_of (K := 35) (by decide) (by decide) (st_62 h.2.1)⟩
  · exact ⟨sb_63 hw h, by decide, sr_of (K := 36) (by decide) (by decide) (st_63 h.2.1)⟩
  · exact ⟨sb_64 hw h, by decide, sr_of (K := 2) (by decide) (by decide) (st_64 h.2.1)⟩
  · exact ⟨sb_65 hw h, by decide, sr_of (K := 4) (by decide) (by decide) (st_65 h.2.1)⟩
  · exact ⟨sb_66 hw h, by decide, sr_of (K := 5) (by decide) (by decide) (st_66 h.2.1)⟩
  · exact ⟨sb_67 hw h, by decide, sr_of (K := 24) (by decide) (by decide) (st_67 h.2.1)⟩
  · exact ⟨sb_68 hw h, by decide, sr_of (K := 12) (by decide) (by decide) (st_68 h.2.1)⟩
  · exact ⟨sb_69 hw h, by decide, sr_of (K := 3) (by decide) (by decide) (st_69 h.2.1)⟩
  · exact ⟨sb_70 hw h, by decide, sr_of (K := 27) (by decide) (by decide) (st_70 h.2.1)⟩
  · exact ⟨sb_71 hw h, by decide, sr_of (K := 47) (by decide) (by decide) (st_71 h.2.1)⟩
  · exact ⟨sb_72 hw h, by decide, sr_of (K := 3) (by decide) (by decide) (st_72 h.2.1)⟩
  · exact ⟨sb_73 hw h, by decide, sr_of (K := 27) (by decide) (by decide) (st_73 h.2.1)⟩
  · exact ⟨sb_74 hw h, by decide, sr_of (K := 17) (by decide) (by decide) (st_74 h.2.1)⟩
theorem sa_all {w : Int32} (hw : HiZ w) : (cF_ShortForm_read w).2.1 = -1 ∨ ∃ k, 48 ≤ k ∧ k < 75 ∧ ∃ P, FT k w P := by
  have hH : j_ushr w 13 = 0 ∨ j_ushr w 13 = 1 ∨ j_ushr w 13 = 2 ∨ j_ushr w 13 = 3 ∨ j_ushr w 13 = 4 ∨ j_ushr w 13 = 5 ∨ j_ushr w 13 = 6 ∨ j_ushr w 13 = 7 := by
    have e : j_ushr w 13 = (j_ushr w 13) &&& 7 := sel_eq (z_xH hw) (sel_and 7 (z_xH hw)) (by decide +kernel)
    rw [e]
    exact f3_cases _
  rcases f2_cases w with h_x3 | h_x3 | h_x3 | h_x3
  · rcases hH with h_xH | h_xH | h_xH | h_xH | h_xH | h_xH | h_xH | h_xH
    · by_cases n_i4 : ((((cF_Word_part w 11 2 4) ||| (cF_Word_part w 7 4 6)) ||| (cF_Word_part w 6 1 2)) ||| (cF_Word_part w 5 1 3)) = 0
      · exact Or.inl (by rw [rs_0 h_x3, cF_ShortForm_readFirst, if_pos h_xH, cF_ShortForm_readStackAddress, if_pos n_i4]; rfl)
      · exact Or.inr ⟨48, by decide, by decide, sa_48 hw h_x3 h_xH n_i4⟩
    · exact Or.inl (by rw [rs_0 h_x3, cF_ShortForm_readFirst, if_neg (show ¬ j_ushr w 13 = 0 by rw [h_xH]; decide), if_neg (show ¬ j_ushr w 13 = 2 by rw [h_xH]; decide), if_neg (show ¬ j_ushr w 13 = 6 by rw [h_xH]; decide)])
    · exact Or.inr ⟨49, by decide, by decide, sa_49 hw h_x3 h_xH⟩
    · exact Or.inl (by rw [rs_0 h_x3, cF_ShortForm_readFirst, if_neg (show ¬ j_ushr w 13 = 0 by rw [h_xH]; decide), if_neg (show ¬ j_ushr w 13 = 2 by rw [h_xH]; decide), if_neg (show ¬ j_ushr w 13 = 6 by rw [h_xH]; decide)])
    · exact Or.inl (by rw [rs_0 h_x3, cF_ShortForm_readFirst, if_neg (show ¬ j_ushr w 13 = 0 by rw [h_xH]; decide), if_neg (show ¬ j_ushr w 13 = 2 by rw [h_xH]; decide), if_neg (show ¬ j_ushr w 13 = 6 by rw [h_xH]; decide)])
    · exact Or.inl (by rw [rs_0 h_x3, cF_ShortForm_readFirst, if_neg (show ¬ j_ushr w 13 = 0 by rw [h_xH]; decide), if_neg (show ¬ j_ushr w 13 = 2 by rw [h_xH]; decide), if_neg (show ¬ j_ushr w 13 = 6 by rw [h_xH]; decide)])
    · exact Or.inr ⟨50, by decide, by decide, sa_50 hw h_x3 h_xH⟩
    · exact Or.inl (by rw [rs_0 h_x3, cF_ShortForm_readFirst, if_neg (show ¬ j_ushr w 13 = 0 by rw [h_xH]; decide), if_neg (show ¬ j_ushr w 13 = 2 by rw [h_xH]; decide), if_neg (show ¬ j_ushr w 13 = 6 by rw [h_xH]; decide)])
  · rcases hH with h_xH | h_xH | h_xH | h_xH | h_xH | h_xH | h_xH | h_xH
    · by_cases h_w : w = 1
      · exact Or.inr ⟨51, by decide, by decide, sa_51 hw h_x3 h_xH h_w⟩
      · by_cases n_xd : (j_ushr w 7) &&& 31 = 0
        · exact Or.inl (by rw [rs_1 h_x3, cF_ShortForm_readSecond, if_pos h_xH, cF_ShortForm_readAddition, if_neg h_w, if_pos n_xd]; rfl)
        · by_cases n_six : cF_ShortForm_sixBits w = 0
          · exact Or.inl (by rw [rs_1 h_x3, cF_ShortForm_readSecond, if_pos h_xH, cF_ShortForm_readAddition, if_neg h_w, if_neg n_xd, if_pos n_six]; rfl)
          · exact Or.inr ⟨52, by decide, by decide, sa_52 hw h_x3 h_xH n_xd n_six⟩
    · exact Or.inr ⟨53, by decide, by decide, sa_53 hw h_x3 h_xH⟩
    · by_cases n_xd : (j_ushr w 7) &&& 31 = 0
      · exact Or.inl (by rw [rs_1 h_x3, cF_ShortForm_readSecond, if_neg (show ¬ j_ushr w 13 = 0 by rw [h_xH]; decide), if_neg (show ¬ j_ushr w 13 = 1 by rw [h_xH]; decide), if_pos h_xH, if_pos n_xd]; rfl)
      · exact Or.inr ⟨54, by decide, by decide, sa_54 hw h_x3 h_xH n_xd⟩
    · by_cases n_xd : (j_ushr w 7) &&& 31 = 0
      · exact Or.inl (by rw [rs_1 h_x3, cF_ShortForm_readSecond, if_neg (show ¬ j_ushr w 13 = 0 by rw [h_xH]; decide), if_neg (show ¬ j_ushr w 13 = 1 by rw [h_xH]; decide), if_neg (show ¬ j_ushr w 13 = 2 by rw [h_xH]; decide), if_pos h_xH, cF_ShortForm_readUpper, if_pos n_xd]; rfl)
      · by_cases n_six : cF_ShortForm_sixBits w = 0
        · exact Or.inl (by rw [rs_1 h_x3, cF_ShortForm_readSecond, if_neg (show ¬ j_ushr w 13 = 0 by rw [h_xH]; decide), if_neg (show ¬ j_ushr w 13 = 1 by rw [h_xH]; decide), if_neg (show ¬ j_ushr w 13 = 2 by rw [h_xH]; decide), if_pos h_xH, cF_ShortForm_readUpper, if_neg n_xd, if_pos n_six]; rfl)
        · by_cases n_2 : (j_ushr w 7) &&& 31 = 2
          · have h_xd := n_2
            exact Or.inr ⟨55, by decide, by decide, sa_55 hw h_x3 h_xH h_xd n_six⟩
          · exact Or.inr ⟨56, by decide, by decide, sa_56 hw h_x3 h_xH n_xd n_six n_2⟩
    · rcases f1_cases (j_ushr w 12) with h_xT | h_xT
      · rcases f2_cases (j_ushr w 10) with h_x10 | h_x10 | h_x10 | h_x10
        · by_cases n_six : cF_ShortForm_sixBits w = 0
          · exact Or.inl (by rw [rs_1 h_x3, cF_ShortForm_readSecond, if_neg (show ¬ j_ushr w 13 = 0 by rw [h_xH]; decide), if_neg (show ¬ j_ushr w 13 = 1 by rw [h_xH]; decide), if_neg (show ¬ j_ushr w 13 = 2 by rw [h_xH]; decide), if_neg (show ¬ j_ushr w 13 = 3 by rw [h_xH]; decide), if_pos h_xH, cF_ShortForm_readNearPair, if_pos h_xT, if_pos h_x10, n_six]; rfl)
          · exact Or.inr ⟨57, by decide, by decide, sa_57 hw h_x3 h_xH h_xT h_x10 n_six⟩
        · by_cases n_six : cF_ShortForm_sixBits w = 0
          · exact Or.inl (by rw [rs_1 h_x3, cF_ShortForm_readSecond, if_neg (show ¬ j_ushr w 13 = 0 by rw [h_xH]; decide), if_neg (show ¬ j_ushr w 13 = 1 by rw [h_xH]; decide), if_neg (show ¬ j_ushr w 13 = 2 by rw [h_xH]; decide), if_neg (show ¬ j_ushr w 13 = 3 by rw [h_xH]; decide), if_pos h_xH, cF_ShortForm_readNearPair, if_pos h_xT, if_neg (show ¬ (j_ushr w 10) &&& 3 = 0 by rw [h_x10]; decide), if_pos h_x10, n_six]; rfl)
          · exact Or.inr ⟨58, by decide, by decide, sa_58 hw h_x3 h_xH h_xT h_x10 n_six⟩
        · exact Or.inr ⟨59, by decide, by decide, sa_59 hw h_x3 h_xH h_x10⟩
        · rcases f2_cases (j_ushr w 5) with h_x5 | h_x5 | h_x5 | h_x5
          · exact Or.inr ⟨60, by decide, by decide, sa_60 hw h_x3 h_xH h_xT h_x10 h_x5⟩
          · exact Or.inr ⟨61, by decide, by decide, sa_61 hw h_x3 h_xH h_xT h_x10 h_x5⟩
          · exact Or.inr ⟨62, by decide, by decide, sa_62 hw h_x3 h_xH h_xT h_x10 h_x5⟩
          · exact Or.inr ⟨63, by decide, by decide, sa_63 hw h_x3 h_xH h_xT h_x10 h_x5⟩
      · rcases f2_cases (j_ushr w 10) with h_x10 | h_x10 | h_x10 | h_x10
        · exact Or.inl (by rw [rs_1 h_x3, cF_ShortForm_readSecond, if_neg (show ¬ j_ushr w 13 = 0 by rw [h_xH]; decide), if_neg (show ¬ j_ushr w 13 = 1 by rw [h_xH]; decide), if_neg (show ¬ j_ushr w 13 = 2 by rw [h_xH]; decide), if_neg (show ¬ j_ushr w 13 = 3 by rw [h_xH]; decide), if_pos h_xH, cF_ShortForm_readNearPair, if_neg (show ¬ (j_ushr w 12) &&& 1 = 0 by rw [h_xT]; decide), if_pos h_x10]; rfl)
        · exact Or.inl (by rw [rs_1 h_x3, cF_ShortForm_readSecond, if_neg (show ¬ j_ushr w 13 = 0 by rw [h_xH]; decide), if_neg (show ¬ j_ushr w 13 = 1 by rw [h_xH]; decide), if_neg (show ¬ j_ushr w 13 = 2 by rw [h_xH]; decide), if_neg (show ¬ j_ushr w 13 = 3 by rw [h_xH]; decide), if_pos h_xH, cF_ShortForm_readNearPair, if_neg (show ¬ (j_ushr w 12) &&& 1 = 0 by rw [h_xT]; decide), if_neg (show ¬ (j_ushr w 10) &&& 3 = 0 by rw [h_x10]; decide), if_pos h_x10]; rfl)
        · exact Or.inr ⟨59, by decide, by decide, sa_59 hw h_x3 h_xH h_x10⟩
        · exact Or.inl (by rw [rs_1 h_x3, cF_ShortForm_readSecond, if_neg (show ¬ j_ushr w 13 = 0 by rw [h_xH]; decide), if_neg (show ¬ j_ushr w 13 = 1 by rw [h_xH]; decide), if_neg (show ¬ j_ushr w 13 = 2 by rw [h_xH]; decide), if_neg (show ¬ j_ushr w 13 = 3 by rw [h_xH]; decide), if_pos h_xH, cF_ShortForm_readNearPair, if_neg (show ¬ (j_ushr w 12) &&& 1 = 0 by rw [h_xT]; decide), if_neg (show ¬ (j_ushr w 10) &&& 3 = 0 by rw [h_x10]; decide), if_neg (show ¬ (j_ushr w 10) &&& 3 = 1 by rw [h_x10]; decide), if_neg (show ¬ (j_ushr w 10) &&& 3 = 2 by rw [h_x10]; decide)]; rfl)
    · exact Or.inr ⟨64, by decide, by decide, sa_64 hw h_x3 h_xH⟩
    · exact Or.inr ⟨65, by decide, by decide, sa_65 hw h_x3 h_xH⟩
    · exact Or.inr ⟨66, by decide, by decide, sa_66 hw h_x3 h_xH⟩
  · rcases hH with h_xH | h_xH | h_xH | h_xH | h_xH | h_xH | h_xH | h_xH
    · by_cases n_xd : (j_ushr w 7) &&& 31 = 0
      · exact Or.inl (by rw [rs_2 h_x3, cF_ShortForm_readThird, if_pos h_xH, cF_ShortForm_shiftUp, if_pos n_xd]; rfl)
      · rcases f1_cases (j_ushr w 12) with h_xT | h_xT
        · by_cases n_xe : (j_ushr w 2) &&& 31 = 0
          · exact Or.inl (by rw [rs_2 h_x3, cF_ShortForm_readThird, if_pos h_xH, cF_ShortForm_shiftUp, if_neg n_xd, if_pos h_xT, n_xe]; rfl)
          · exact Or.inr ⟨67, by decide, by decide, sa_67 hw h_x3 h_xH h_xT n_xd n_xe⟩
        · exact Or.inl (by rw [rs_2 h_x3, cF_ShortForm_readThird, if_pos h_xH, cF_ShortForm_shiftUp, if_neg n_xd, if_neg (show ¬ (j_ushr w 12) &&& 1 = 0 by rw [h_xT]; decide)]; rfl)
    · exact Or.inl (by rw [rs_2 h_x3, cF_ShortForm_readThird, if_neg (show ¬ j_ushr w 13 = 0 by rw [h_xH]; decide), if_pos h_xH])
    · by_cases n_xd : (j_ushr w 7) &&& 31 = 0
      · exact Or.inl (by rw [rs_2 h_x3, cF_ShortForm_readThird, if_neg (show ¬ j_ushr w 13 = 0 by rw [h_xH]; decide), if_neg (show ¬ j_ushr w 13 = 1 by rw [h_xH]; decide), if_pos h_xH, cF_ShortForm_readStackLoad, if_pos n_xd]; rfl)
      · exact Or.inr ⟨68, by decide, by decide, sa_68 hw h_x3 h_xH n_xd⟩
    · exact Or.inl (by rw [rs_2 h_x3, cF_ShortForm_readThird, if_neg (show ¬ j_ushr w 13 = 0 by rw [h_xH]; decide), if_neg (show ¬ j_ushr w 13 = 1 by rw [h_xH]; decide), if_neg (show ¬ j_ushr w 13 = 2 by rw [h_xH]; decide), if_pos h_xH])
    · by_cases h_w : w = 36866
      · exact Or.inr ⟨71, by decide, by decide, sa_71 hw h_x3 h_xH h_w⟩
      · by_cases n_xd : (j_ushr w 7) &&& 31 = 0
        · rcases f1_cases (j_ushr w 12) with h_xT | h_xT
          · exact Or.inl (by rw [rs_2 h_x3, cF_ShortForm_readThird, if_neg (show ¬ j_ushr w 13 = 0 by rw [h_xH]; decide), if_neg (show ¬ j_ushr w 13 = 1 by rw [h_xH]; decide), if_neg (show ¬ j_ushr w 13 = 2 by rw [h_xH]; decide), if_neg (show ¬ j_ushr w 13 = 3 by rw [h_xH]; decide), if_pos h_xH, cF_ShortForm_readPair, if_pos h_xT, if_neg h_w, if_pos n_xd]; rfl)
          · exact Or.inl (by rw [rs_2 h_x3, cF_ShortForm_readThird, if_neg (show ¬ j_ushr w 13 = 0 by rw [h_xH]; decide), if_neg (show ¬ j_ushr w 13 = 1 by rw [h_xH]; decide), if_neg (show ¬ j_ushr w 13 = 2 by rw [h_xH]; decide), if_neg (show ¬ j_ushr w 13 = 3 by rw [h_xH]; decide), if_pos h_xH, cF_ShortForm_readPair, if_neg (show ¬ (j_ushr w 12) &&& 1 = 0 by rw [h_xT]; decide), if_neg h_w, if_pos n_xd]; rfl)
        · rcases f1_cases (j_ushr w 12) with h_xT | h_xT
          · by_cases n_xe : (j_ushr w 2) &&& 31 = 0
            · have h_xe := n_xe
              exact Or.inr ⟨69, by decide, by decide, sa_69 hw h_x3 h_xH h_xT h_xe n_xd⟩
            · exact Or.inr ⟨70, by decide, by decide, sa_70 hw h_x3 h_xH h_xT n_xd n_xe⟩
          · by_cases n_xe : (j_ushr w 2) &&& 31 = 0
            · have h_xe := n_xe
              exact Or.inr ⟨72, by decide, by decide, sa_72 hw h_x3 h_xH h_xT h_xe n_xd⟩
            · exact Or.inr ⟨73, by decide, by decide, sa_73 hw h_x3 h_xH h_xT n_xd n_xe⟩
    · exact Or.inl (by rw [rs_2 h_x3, cF_ShortForm_readThird, if_neg (show ¬ j_ushr w 13 = 0 by rw [h_xH]; decide), if_neg (show ¬ j_ushr w 13 = 1 by rw [h_xH]; decide), if_neg (show ¬ j_ushr w 13 = 2 by rw [h_xH]; decide), if_neg (show ¬ j_ushr w 13 = 3 by rw [h_xH]; decide), if_neg (show ¬ j_ushr w 13 = 4 by rw [h_xH]; decide), if_pos h_xH])
    · exact Or.inr ⟨74, by decide, by decide, sa_74 hw h_x3 h_xH⟩
    · exact Or.inl (by rw [rs_2 h_x3, cF_ShortForm_readThird, if_neg (show ¬ j_ushr w 13 = 0 by rw [h_xH]; decide), if_neg (show ¬ j_ushr w 13 = 1 by rw [h_xH]; decide), if_neg (show ¬ j_ushr w 13 = 2 by rw [h_xH]; decide), if_neg (show ¬ j_ushr w 13 = 3 by rw [h_xH]; decide), if_neg (show ¬ j_ushr w 13 = 4 by rw [h_xH]; decide), if_neg (show ¬ j_ushr w 13 = 5 by rw [h_xH]; decide), if_neg (show ¬ j_ushr w 13 = 6 by rw [h_xH]; decide)])
  · exact Or.inl (rs_3 h_x3)
theorem rs_b2 (w : Int32) : (cF_ShortForm_read w).1 = 2 := by
  rcases f2_cases w with h | h | h | h
  · rw [rs_0 h]
  · rw [rs_1 h]
  · rw [rs_2 h]
  · rw [cF_ShortForm_read, cF_ShortForm_read_1, if_neg (by rw [h]; decide), if_neg (by rw [h]; decide), if_neg (by rw [h]; decide)]
    rfl
theorem dec_short {w : Int32} (hw : HiZ w) (hl : mF_StepMachineModel_isLong w = 0) (part : Nat → Int32) : ((mF_StepMachineModel_find part w).1 = -1 ∧ (cF_ShortForm_read w).2.1 = -1) ∨ (¬ (mF_StepMachineModel_find part w).1 = -1 ∧ ¬ (mF_StepMachineModel_find part w).1 < 48 ∧ ¬ (cF_ShortForm_read w).2.1 = -1 ∧ ∃ l Q R, mF_StepMachineModel_stretch (mF_StepMachineModel_find part w).2 (mF_StepMachineModel_find part w).1 = (l, Q) ∧ mF_StepMachineModel_find Q l = ((cF_ShortForm_read w).2.1, R) ∧ R 0 = (cF_ShortForm_read w).2.2.1 ∧ R 1 = (cF_ShortForm_read w).2.2.2.1 ∧ R 2 = (cF_ShortForm_read w).2.2.2.2.1 ∧ R 3 = (cF_ShortForm_read w).2.2.2.2.2) := by
  rcases find_short hl part with ⟨k, P, h1, h2, h3, h4⟩ | ⟨h1, h2⟩
  · right
    obtain ⟨⟨d, a, b, i, e, sd, sa, sb, si⟩, hK, l, Q, R, e1, e2, hR⟩ := sb_all hw h1 h2 h4
    rw [h3, e]
    refine ⟨?_, ?_, ?_, l, Q, R, e1, e2, sel_eq (hR 0 (by decide)) sd fun _ _ => rfl, sel_eq (hR 1 (by decide)) sa fun _ _ => rfl, sel_eq (hR 2 (by decide)) sb fun _ _ => rfl, sel_eq (hR 3 (by decide)) si fun _ _ => rfl⟩
    · intro q
      have := congrArg Int32.toInt q
      rw [nI_toInt (by omega), show (-1 : Int32).toInt = -1 from by decide] at this
      omega
    · intro q
      have := ti_lt q
      rw [nI_toInt (by omega), show (48 : Int32).toInt = 48 from by decide] at this
      omega
    · intro q
      have := congrArg Int32.toInt q
      rw [show (-1 : Int32).toInt = -1 from by decide] at this
      have h5 : (nI (KN k)).toInt = -1 := this
      rw [nI_toInt (by omega)] at h5
      omega
  · left
    refine ⟨h1, ?_⟩
    rcases sa_all hw with h | ⟨k, g1, g2, P, hP⟩
    · exact h
    · exact absurd hP (h2 k g1 g2 P)
