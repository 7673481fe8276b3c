def ap (o : Nat × Nat × Nat × Nat × Nat) (row : Nat → Int32) (j : Nat) : Int32 := if 32 * o.1 + o.2.1 ≤ j ∧ j < 32 * o.1 + o.2.1 + o.2.2.1 then (if o.2.2.2.2 = 0 then nI (o.2.2.2.1 / 2 ^ (j - (32 * o.1 + o.2.1)) % 2) else nI (o.2.2.2.1 + (j - (32 * o.1 + o.2.1)))) else row j
def aps (l : List (Nat × Nat × Nat × Nat × Nat)) (row : Nat → Int32) : Nat → Int32 := l.foldl (fun r o => ap o r) row
theorem aps_nil (row : Nat → Int32) : aps [] row = row := rfl
theorem aps_cons (o : Nat × Nat × Nat × Nat × Nat) (l : List (Nat × Nat × Nat × Nat × Nat)) (row : Nat → Int32) : aps (o :: l) row = aps l (ap o row) := rfl
theorem aps_app (l k : List (Nat × Nat × Nat × Nat × Nat)) (row : Nat → Int32) : aps (l ++ k) row = aps k (aps l row) := List.foldl_append
theorem sm_31 : ∀ i, i < 32 → ((nI i &&& 31).toBitVec.smod 32).toNat = i := by decide +kernel
theorem fix_L {k s n v : Nat} (hk : k < 75) (hs : s + n ≤ 32) (hv : v < 2147483648) : ∀ (fu i : Nat) (row : Nat → Int32), fu + i = n + 1 → i ≤ n → (mF_StepMachineModel_fix_L3 (nI k) (nI s) (nI n) (nI v) fu (nI i) row).2 = fun j => if 32 * k + s + i ≤ j ∧ j < 32 * k + s + n then nI (v / 2 ^ (j - (32 * k + s)) % 2) else row j := by
  intro fu
  induction fu with
  | zero => intro i row h1 h2; omega
  | succ fu ih =>
    intro i row h1 h2
    rw [mF_StepMachineModel_fix_L3]
    by_cases h : i = n
    · rw [if_pos (by rw [h]; exact Int32.le_refl _)]
      funext j
      rw [if_neg (by omega)]
    · have ex : (32 : Int32) * nI k = nI (32 * k) := pk_mul 32 k
      have ev : (nI v >>> (nI i &&& 31)) &&& 1 = nI (v / 2 ^ i % 2) := by
        rw [pk_shrN (by omega) _ i (sm_31 i (by omega))]
        exact pk_andN (Nat.lt_of_le_of_lt (Nat.div_le_self _ _) (by omega)) 1 (by decide)
      rw [if_neg (fun q => by have := (nI_leI (by omega) (by omega)).mp q; omega), ex, nI_add, nI_add, nI_clamp (by omega), ev, nI_1, ih (i + 1) _ (by omega) (by omega)]
      funext j
      by_cases hj : j = 32 * k + s + i
      · rw [if_neg (by omega), hj, pk_us, if_pos (by omega), show 32 * k + s + i - (32 * k + s) = i by omega]
      · by_cases hc : 32 * k + s + (i + 1) ≤ j ∧ j < 32 * k + s + n
        · rw [if_pos hc, if_pos (by omega)]
        · rw [if_neg hc, pk_un hj, if_neg (by omega)]
theorem fixE (row : Nat → Int32) (k s n v : Nat) (hk : k < 75) (hs : s + n ≤ 32) (hv : v < 2147483648) : mF_StepMachineModel_fix row (nI k) (nI s) (nI n) (nI v) = ap (k, s, n, v, 0) row := by
  rw [mF_StepMachineModel_fix, mF_StepMachineModel_fix_1, show ((nI n).toInt - (0 : Int32).toInt).toNat + 1 = n + 1 from by rw [nI_toInt (by omega), e_0]; omega]
  show (mF_StepMachineModel_fix_L3 (nI k) (nI s) (nI n) (nI v) (n + 1) (nI 0) row).2 = _
  rw [fix_L hk hs hv (n + 1) 0 row rfl (by omega)]
  rfl
theorem lay_L {k hi lo b v : Nat} (hk : k < 75) (h1 : 1 ≤ lo) (h2 : lo ≤ hi) (h3 : hi < 32) (h4 : hi ≤ b + v) (h5 : b + v < 2147483648) : ∀ (fu p : Nat) (row : Nat → Int32), fu + lo = p + 2 → p ≤ hi → (mF_StepMachineModel_lay_L3 (nI k) (nI hi) (nI lo) (nI b) (nI v) fu (nI p) row).2 = fun j => if 32 * k + lo ≤ j ∧ j ≤ 32 * k + p then nI (b + v - (hi - (j - 32 * k))) else row j := by
  intro fu
  induction fu with
  | zero =>
    intro p row g1 g2
    rw [mF_StepMachineModel_lay_L3]
    funext j
    rw [if_neg (by omega)]
  | succ fu ih =>
    intro p row g1 g2
    rw [mF_StepMachineModel_lay_L3]
    by_cases h : p < lo
    · rw [if_pos ((nI_ltI (by omega) (by omega)).mpr h)]
      funext j
      rw [if_neg (by omega)]
    · have ex : (32 : Int32) * nI k = nI (32 * k) := pk_mul 32 k
      obtain ⟨q, rfl⟩ : ∃ q, p = q + 1 := ⟨p - 1, by omega⟩
      have ev : nI b + nI v - (nI hi - nI (q + 1)) = nI (b + v - (hi - (q + 1))) := by
        rw [nI_add, pk_sub (by omega), pk_sub (by omega)]
      rw [if_neg (fun w => h ((nI_ltI (by omega) (by omega)).mp w)), ev, ex, nI_add, nI_clamp (by omega), pk_m1, ih q _ (by omega) (by omega)]
      funext j
      by_cases hj : j = 32 * k + (q + 1)
      · rw [if_neg (by omega), hj, pk_us, if_pos (by omega), show 32 * k + (q + 1) - 32 * k = q + 1 by omega]
      · by_cases hc : 32 * k + lo ≤ j ∧ j ≤ 32 * k + q
        · rw [if_pos hc, if_pos (by omega)]
        · rw [if_neg hc, pk_un hj, if_neg (by omega)]
theorem layE (row : Nat → Int32) (k hi lo b v : Nat) (hk : k < 75) (h1 : 1 ≤ lo) (h2 : lo ≤ hi) (h3 : hi < 32) (h4 : hi ≤ b + v) (h5 : b + v < 2147483648) : mF_StepMachineModel_lay row (nI k) (nI hi) (nI lo) (nI b) (nI v) = ap (k, lo, hi + 1 - lo, b + v - (hi - lo), 1) row := by
  rw [mF_StepMachineModel_lay, mF_StepMachineModel_lay_1, show ((nI hi).toInt - (nI lo).toInt + 1).toNat + 1 = hi + 2 - lo from by rw [nI_toInt (by omega), nI_toInt (by omega)]; omega, lay_L hk h1 h2 h3 h4 h5 (hi + 2 - lo) hi row (by omega) (Nat.le_refl _)]
  funext j
  show _ = if 32 * k + lo ≤ j ∧ j < 32 * k + lo + (hi + 1 - lo) then (if (1 : Nat) = 0 then _ else nI (b + v - (hi - lo) + (j - (32 * k + lo)))) else row j
  by_cases hc : 32 * k + lo ≤ j ∧ j ≤ 32 * k + hi
  · rw [if_pos hc, if_pos (by omega), if_neg (by decide), show b + v - (hi - (j - 32 * k)) = b + v - (hi - lo) + (j - (32 * k + lo)) by omega]
  · rw [if_neg hc, if_neg (by omega)]
theorem oneE (row : Nat → Int32) (k p v : Nat) (hk : k < 75) (hp : p < 32) : mF_StepMachineModel_one row (nI k) (nI p) (nI v) = ap (k, p, 1, 400 + v, 1) row := by
  rw [mF_StepMachineModel_one, show (32 : Int32) * nI k = nI (32 * k) from pk_mul 32 k, nI_add, nI_clamp (by omega), show (400 : Int32) + nI v = nI (400 + v) from nI_add 400 v]
  funext j
  show _ = if 32 * k + p ≤ j ∧ j < 32 * k + p + 1 then (if (1 : Nat) = 0 then _ else nI (400 + v + (j - (32 * k + p)))) else row j
  by_cases hj : j = 32 * k + p
  · rw [hj, pk_us, if_pos (by omega), if_neg (by decide), show 32 * k + p - (32 * k + p) = 0 by omega]
    rfl
  · rw [pk_un hj, if_neg (by omega)]
theorem ll_0 (row : Nat → Int32) : mF_StepMachineModel_layLong row (nI 0) = aps [(0, 0, 7, 55, 0), (0, 7, 5, 100, 1), (0, 12, 20, 400, 1)] row := by
  show (mF_StepMachineModel_lay (mF_StepMachineModel_lay (mF_StepMachineModel_fix row (nI 0) (nI 0) (nI 7) (nI 55)) (nI 0) (nI 11) (nI 7) (nI 100) (nI 4)) (nI 0) (nI 31) (nI 12) (nI 400) (nI 19)) = _
  simp (disch := decide) only [fixE, layE, oneE]
  rfl
theorem ll_1 (row : Nat → Int32) : mF_StepMachineModel_layLong row (nI 1) = aps [(1, 0, 7, 23, 0), (1, 7, 5, 100, 1), (1, 12, 20, 400, 1)] row := by
  show (mF_StepMachineModel_lay (mF_StepMachineModel_lay (mF_StepMachineModel_fix row (nI 1) (nI 0) (nI 7) (nI 23)) (nI 1) (nI 11) (nI 7) (nI 100) (nI 4)) (nI 1) (nI 31) (nI 12) (nI 400) (nI 19)) = _
  simp (disch := decide) only [fixE, layE, oneE]
  rfl
theorem ll_2 (row : Nat → Int32) : mF_StepMachineModel_layLong row (nI 2) = aps [(2, 0, 7, 111, 0), (2, 7, 5, 100, 1), (2, 31, 1, 420, 1), (2, 21, 10, 401, 1), (2, 20, 1, 411, 1), (2, 12, 8, 412, 1)] row := by
  show (mF_StepMachineModel_lay (mF_StepMachineModel_lay (mF_StepMachineModel_lay (mF_StepMachineModel_lay (mF_StepMachineModel_lay (mF_StepMachineModel_fix row (nI 2) (nI 0) (nI 7) (nI 111)) (nI 2) (nI 11) (nI 7) (nI 100) (nI 4)) (nI 2) (nI 31) (nI 31) (nI 400) (nI 20)) (nI 2) (nI 30) (nI 21) (nI 400) (nI 10)) (nI 2) (nI 20) (nI 20) (nI 400) (nI 11)) (nI 2) (nI 19) (nI 12) (nI 400) (nI 19)) = _
  simp (disch := decide) only [fixE, layE, oneE]
  rfl
theorem ll_3 (row : Nat → Int32) : mF_StepMachineModel_layLong row (nI 3) = aps [(3, 0, 7, 103, 0), (3, 12, 3, 0, 0), (3, 15, 5, 200, 1), (3, 7, 5, 100, 1), (3, 20, 12, 400, 1)] row := by
  show (mF_StepMachineModel_lay (mF_StepMachineModel_lay (mF_StepMachineModel_lay (mF_StepMachineModel_fix (mF_StepMachineModel_fix row (nI 3) (nI 0) (nI 7) (nI 103)) (nI 3) (nI 12) (nI 3) (nI 0)) (nI 3) (nI 19) (nI 15) (nI 200) (nI 4)) (nI 3) (nI 11) (nI 7) (nI 100) (nI 4)) (nI 3) (nI 31) (nI 20) (nI 400) (nI 11)) = _
  simp (disch := decide) only [fixE, layE, oneE]
  rfl
theorem ll_4 (row : Nat → Int32) : mF_StepMachineModel_layLong row (nI 4) = aps [(4, 0, 7, 99, 0), (4, 12, 3, 0, 0), (4, 15, 5, 200, 1), (4, 20, 5, 300, 1), (4, 31, 1, 412, 1), (4, 25, 6, 405, 1), (4, 8, 4, 401, 1), (4, 7, 1, 411, 1)] row := by
  show (mF_StepMachineModel_lay (mF_StepMachineModel_lay (mF_StepMachineModel_lay (mF_StepMachineModel_lay (mF_StepMachineModel_lay (mF_StepMachineModel_lay (mF_StepMachineModel_fix (mF_StepMachineModel_fix row (nI 4) (nI 0) (nI 7) (nI 99)) (nI 4) (nI 12) (nI 3) (nI 0)) (nI 4) (nI 19) (nI 15) (nI 200) (nI 4)) (nI 4) (nI 24) (nI 20) (nI 300) (nI 4)) (nI 4) (nI 31) (nI 31) (nI 400) (nI 12)) (nI 4) (nI 30) (nI 25) (nI 400) (nI 10)) (nI 4) (nI 11) (nI 8) (nI 400) (nI 4)) (nI 4) (nI 7) (nI 7) (nI 400) (nI 11)) = _
  simp (disch := decide) only [fixE, layE, oneE]
  rfl
theorem ll_5 (row : Nat → Int32) : mF_StepMachineModel_layLong row (nI 5) = aps [(5, 0, 7, 99, 0), (5, 12, 3, 1, 0), (5, 15, 5, 200, 1), (5, 20, 5, 300, 1), (5, 31, 1, 412, 1), (5, 25, 6, 405, 1), (5, 8, 4, 401, 1), (5, 7, 1, 411, 1)] row := by
  show (mF_StepMachineModel_lay (mF_StepMachineModel_lay (mF_StepMachineModel_lay (mF_StepMachineModel_lay (mF_StepMachineModel_lay (mF_StepMachineModel_lay (mF_StepMachineModel_fix (mF_StepMachineModel_fix row (nI 5) (nI 0) (nI 7) (nI 99)) (nI 5) (nI 12) (nI 3) (nI 1)) (nI 5) (nI 19) (nI 15) (nI 200) (nI 4)) (nI 5) (nI 24) (nI 20) (nI 300) (nI 4)) (nI 5) (nI 31) (nI 31) (nI 400) (nI 12)) (nI 5) (nI 30) (nI 25) (nI 400) (nI 10)) (nI 5) (nI 11) (nI 8) (nI 400) (nI 4)) (nI 5) (nI 7) (nI 7) (nI 400) (nI 11)) = _
  simp (disch := decide) only [fixE, layE, oneE]
  rfl
theorem ll_6 (row : Nat → Int32) : mF_StepMachineModel_layLong row (nI 6) = aps [(6, 0, 7, 99, 0), (6, 12, 3, 4, 0), (6, 15, 5, 200, 1), (6, 20, 5, 300, 1), (6, 31, 1, 412, 1), (6, 25, 6, 405, 1), (6, 8, 4, 401, 1), (6, 7, 1, 411, 1)] row := by
  show (mF_StepMachineModel_lay (mF_StepMachineModel_lay (mF_StepMachineModel_lay (mF_StepMachineModel_lay (mF_StepMachineModel_lay (mF_StepMachineModel_lay (mF_StepMachineModel_fix (mF_StepMachineModel_fix row (nI 6) (nI 0) (nI 7) (nI 99)) (nI 6) (nI 12) (nI 3) (nI 4)) (nI 6) (nI 19) (nI 15) (nI 200) (nI 4)) (nI 6) (nI 24) (nI 20) (nI 300) (nI 4)) (nI 6) (nI 31) (nI 31) (nI 400) (nI 12)) (nI 6) (nI 30) (nI 25) (nI 400) (nI 10)) (nI 6) (nI 11) (nI 8) (nI 400) (nI 4)) (nI 6) (nI 7) (nI 7) (nI 400) (nI 11)) = _
  simp (disch := decide) only [fixE, layE, oneE]
  rfl
theorem ll_7 (row : Nat → Int32) : mF_StepMachineModel_layLong row (nI 7) = aps [(7, 0, 7, 99, 0), (7, 12, 3, 5, 0), (7, 15, 5, 200, 1), (7, 20, 5, 300, 1), (7, 31, 1, 412, 1), (7, 25, 6, 405, 1), (7, 8, 4, 401, 1), (7, 7, 1, 411, 1)] row := by
  show (mF_StepMachineModel_lay (mF_StepMachineModel_lay (mF_StepMachineModel_lay (mF_StepMachineModel_lay (mF_StepMachineModel_lay (mF_StepMachineModel_lay (mF_StepMachineModel_fix (mF_StepMachineModel_fix row (nI 7) (nI 0) (nI 7) (nI 99)) (nI 7) (nI 12) (nI 3) (nI 5)) (nI 7) (nI 19) (nI 15) (nI 200) (nI 4)) (nI 7) (nI 24) (nI 20) (nI 300) (nI 4)) (nI 7) (nI 31) (nI 31) (nI 400) (nI 12)) (nI 7) (nI 30) (nI 25) (nI 400) (nI 10)) (nI 7) (nI 11) (nI 8) (nI 400) (nI 4)) (nI 7) (nI 7) (nI 7) (nI 400) (nI 11)) = _
  simp (disch := decide) only [fixE, layE, oneE]
  rfl
theorem ll_8 (row : Nat → Int32) : mF_StepMachineModel_layLong row (nI 8) = aps [(8, 0, 7, 99, 0), (8, 12, 3, 6, 0), (8, 15, 5, 200, 1), (8, 20, 5, 300, 1), (8, 31, 1, 412, 1), (8, 25, 6, 405, 1), (8, 8, 4, 401, 1), (8, 7, 1, 411, 1)] row := by
  show (mF_StepMachineModel_lay (mF_StepMachineModel_lay (mF_StepMachineModel_lay (mF_StepMachineModel_lay (mF_StepMachineModel_lay (mF_StepMachineModel_lay (mF_StepMachineModel_fix (mF_StepMachineModel_fix row (nI 8) (nI 0) (nI 7) (nI 99)) (nI 8) (nI 12) (nI 3) (nI 6)) (nI 8) (nI 19) (nI 15) (nI 200) (nI 4)) (nI 8) (nI 24) (nI 20) (nI 300) (nI 4)) (nI 8) (nI 31) (nI 31) (nI 400) (nI 12)) (nI 8) (nI 30) (nI 25) (nI 400) (nI 10)) (nI 8) (nI 11) (nI 8) (nI 400) (nI 4)) (nI 8) (nI 7) (nI 7) (nI 400) (nI 11)) = _
  simp (disch := decide) only [fixE, layE, oneE]
  rfl
theorem ll_9 (row : Nat → Int32) : mF_StepMachineModel_layLong row (nI 9) = aps [(9, 0, 7, 99, 0), (9, 12, 3, 7, 0), (9, 15, 5, 200, 1), (9, 20, 5, 300, 1), (9, 31, 1, 412, 1), (9, 25, 6, 405, 1), (9, 8, 4, 401, 1), (9, 7, 1, 411, 1)] row := by
  show (mF_StepMachineModel_lay (mF_StepMachineModel_lay (mF_StepMachineModel_lay (mF_StepMachineModel_lay (mF_StepMachineModel_lay (mF_StepMachineModel_lay (mF_StepMachineModel_fix (mF_StepMachineModel_fix row (nI 9) (nI 0) (nI 7) (nI 99)) (nI 9) (nI 12) (nI 3) (nI 7)) (nI 9) (nI 19) (nI 15) (nI 200) (nI 4)) (nI 9) (nI 24) (nI 20) (nI 300) (nI 4)) (nI 9) (nI 31) (nI 31) (nI 400) (nI 12)) (nI 9) (nI 30) (nI 25) (nI 400) (nI 10)) (nI 9) (nI 11) (nI 8) (nI 400) (nI 4)) (nI 9) (nI 7) (nI 7) (nI 400) (nI 11)) = _
  simp (disch := decide) only [fixE, layE, oneE]
  rfl
theorem ll_10 (row : Nat → Int32) : mF_StepMachineModel_layLong row (nI 10) = aps [(10, 0, 7, 3, 0), (10, 12, 3, 0, 0), (10, 15, 5, 200, 1), (10, 7, 5, 100, 1), (10, 20, 12, 400, 1)] row := by
  show (mF_StepMachineModel_lay (mF_StepMachineModel_lay (mF_StepMachineModel_lay (mF_StepMachineModel_fix (mF_StepMachineModel_fix row (nI 10) (nI 0) (nI 7) (nI 3)) (nI 10) (nI 12) (nI 3) (nI 0)) (nI 10) (nI 19) (nI 15) (nI 200) (nI 4)) (nI 10) (nI 11) (nI 7) (nI 100) (nI 4)) (nI 10) (nI 31) (nI 20) (nI 400) (nI 11)) = _
  simp (disch := decide) only [fixE, layE, oneE]
  rfl
theorem ll_11 (row : Nat → Int32) : mF_StepMachineModel_layLong row (nI 11) = aps [(11, 0, 7, 3, 0), (11, 12, 3, 1, 0), (11, 15, 5, 200, 1), (11, 7, 5, 100, 1), (11, 20, 12, 400, 1)] row := by
  show (mF_StepMachineModel_lay (mF_StepMachineModel_lay (mF_StepMachineModel_lay (mF_StepMachineModel_fix (mF_StepMachineModel_fix row (nI 11) (nI 0) (nI 7) (nI 3)) (nI 11) (nI 12) (nI 3) (nI 1)) (nI 11) (nI 19) (nI 15) (nI 200) (nI 4)) (nI 11) (nI 11) (nI 7) (nI 100) (nI 4)) (nI 11) (nI 31) (nI 20) (nI 400) (nI 11)) = _
  simp (disch := decide) only [fixE, layE, oneE]
  rfl
theorem ll_12 (row : Nat → Int32) : mF_StepMachineModel_layLong row (nI 12) = aps [(12, 0, 7, 3, 0), (12, 12, 3, 2, 0), (12, 15, 5, 200, 1), (12, 7, 5, 100, 1), (12, 20, 12, 400, 1)] row := by
  show (mF_StepMachineModel_lay (mF_StepMachineModel_lay (mF_StepMachineModel_lay (mF_StepMachineModel_fix (mF_StepMachineModel_fix row (nI 12) (nI 0) (nI 7) (nI 3)) (nI 12) (nI 12) (nI 3) (nI 2)) (nI 12) (nI 19) (nI 15) (nI 200) (nI 4)) (nI 12) (nI 11) (nI 7) (nI 100) (nI 4)) (nI 12) (nI 31) (nI 20) (nI 400) (nI 11)) = _
  simp (disch := decide) only [fixE, layE, oneE]
  rfl
theorem ll_13 (row : Nat → Int32) : mF_StepMachineModel_layLong row (nI 13) = aps [(13, 0, 7, 3, 0), (13, 12, 3, 4, 0), (13, 15, 5, 200, 1), (13, 7, 5, 100, 1), (13, 20, 12, 400, 1)] row := by
  show (mF_StepMachineModel_lay (mF_StepMachineModel_lay (mF_StepMachineModel_lay (mF_StepMachineModel_fix (mF_StepMachineModel_fix row (nI 13) (nI 0) (nI 7) (nI 3)) (nI 13) (nI 12) (nI 3) (nI 4)) (nI 13) (nI 19) (nI 15) (nI 200) (nI 4)) (nI 13) (nI 11) (nI 7) (nI 100) (nI 4)) (nI 13) (nI 31) (nI 20) (nI 400) (nI 11)) = _
  simp (disch := decide) only [fixE, layE, oneE]
  rfl
theorem ll_14 (row : Nat → Int32) : mF_StepMachineModel_layLong row (nI 14) = aps [(14, 0, 7, 3, 0), (14, 12, 3, 5, 0), (14, 15, 5, 200, 1), (14, 7, 5, 100, 1), (14, 20, 12, 400, 1)] row := by
  show (mF_StepMachineModel_lay (mF_StepMachineModel_lay (mF_StepMachineModel_lay (mF_StepMachineModel_fix (mF_StepMachineModel_fix row (nI 14) (nI 0) (nI 7) (nI 3)) (nI 14) (nI 12) (nI 3) (nI 5)) (nI 14) (nI 19) (nI 15) (nI 200) (nI 4)) (nI 14) (nI 11) (nI 7) (nI 100) (nI 4)) (nI 14) (nI 31) (nI 20) (nI 400) (nI 11)) = _
  simp (disch := decide) only [fixE, layE, oneE]
  rfl
theorem ll_15 (row : Nat → Int32) : mF_StepMachineModel_layLong row (nI 15) = aps [(15, 0, 7, 35, 0), (15, 12, 3, 0, 0), (15, 15, 5, 200, 1), (15, 20, 5, 300, 1), (15, 25, 7, 405, 1), (15, 7, 5, 400, 1)] row := by
  show (mF_StepMachineModel_lay (mF_StepMachineModel_lay (mF_StepMachineModel_lay (mF_StepMachineModel_lay (mF_StepMachineModel_fix (mF_StepMachineModel_fix row (nI 15) (nI 0) (nI 7) (nI 35)) (nI 15) (nI 12) (nI 3) (nI 0)) (nI 15) (nI 19) (nI 15) (nI 200) (nI 4)) (nI 15) (nI 24) (nI 20) (nI 300) (nI 4)) (nI 15) (nI 31) (nI 25) (nI 400) (nI 11)) (nI 15) (nI 11) (nI 7) (nI 400) (nI 4)) = _
  simp (disch := decide) only [fixE, layE, oneE]
  rfl
theorem ll_16 (row : Nat → Int32) : mF_StepMachineModel_layLong row (nI 16) = aps [(16, 0, 7, 35, 0), (16, 12, 3, 1, 0), (16, 15, 5, 200, 1), (16, 20, 5, 300, 1), (16, 25, 7, 405, 1), (16, 7, 5, 400, 1)] row := by
  show (mF_StepMachineModel_lay (mF_StepMachineModel_lay (mF_StepMachineModel_lay (mF_StepMachineModel_lay (mF_StepMachineModel_fix (mF_StepMachineModel_fix row (nI 16) (nI 0) (nI 7) (nI 35)) (nI 16) (nI 12) (nI 3) (nI 1)) (nI 16) (nI 19) (nI 15) (nI 200) (nI 4)) (nI 16) (nI 24) (nI 20) (nI 300) (nI 4)) (nI 16) (nI 31) (nI 25) (nI 400) (nI 11)) (nI 16) (nI 11) (nI 7) (nI 400) (nI 4)) = _
  simp (disch := decide) only [fixE, layE, oneE]
  rfl
theorem ll_17 (row : Nat → Int32) : mF_StepMachineModel_layLong row (nI 17) = aps [(17, 0, 7, 35, 0), (17, 12, 3, 2, 0), (17, 15, 5, 200, 1), (17, 20, 5, 300, 1), (17, 25, 7, 405, 1), (17, 7, 5, 400, 1)] row := by
  show (mF_StepMachineModel_lay (mF_StepMachineModel_lay (mF_StepMachineModel_lay (mF_StepMachineModel_lay (mF_StepMachineModel_fix (mF_StepMachineModel_fix row (nI 17) (nI 0) (nI 7) (nI 35)) (nI 17) (nI 12) (nI 3) (nI 2)) (nI 17) (nI 19) (nI 15) (nI 200) (nI 4)) (nI 17) (nI 24) (nI 20) (nI 300) (nI 4)) (nI 17) (nI 31) (nI 25) (nI 400) (nI 11)) (nI 17) (nI 11) (nI 7) (nI 400) (nI 4)) = _
  simp (disch := decide) only [fixE, layE, oneE]
  rfl
theorem ll_18 (row : Nat → Int32) : mF_StepMachineModel_layLong row (nI 18) = aps [(18, 0, 7, 19, 0), (18, 12, 3, 0, 0), (18, 15, 5, 200, 1), (18, 7, 5, 100, 1), (18, 20, 12, 400, 1)] row := by
  show (mF_StepMachineModel_lay (mF_StepMachineModel_lay (mF_StepMachineModel_lay (mF_StepMachineModel_fix (mF_StepMachineModel_fix row (nI 18) (nI 0) (nI 7) (nI 19)) (nI 18) (nI 12) (nI 3) (nI 0)) (nI 18) (nI 19) (nI 15) (nI 200) (nI 4)) (nI 18) (nI 11) (nI 7) (nI 100) (nI 4)) (nI 18) (nI 31) (nI 20) (nI 400) (nI 11)) = _
  simp (disch := decide) only [fixE, layE, oneE]
  rfl
theorem ll_19 (row : Nat → Int32) : mF_StepMachineModel_layLong row (nI 19) = aps [(19, 0, 7, 19, 0), (19, 12, 3, 2, 0), (19, 15, 5, 200, 1), (19, 7, 5, 100, 1), (19, 20, 12, 400, 1)] row := by
  show (mF_StepMachineModel_lay (mF_StepMachineModel_lay (mF_StepMachineModel_lay (mF_StepMachineModel_fix (mF_StepMachineModel_fix row (nI 19) (nI 0) (nI 7) (nI 19)) (nI 19) (nI 12) (nI 3) (nI 2)) (nI 19) (nI 19) (nI 15) (nI 200) (nI 4)) (nI 19) (nI 11) (nI 7) (nI 100) (nI 4)) (nI 19) (nI 31) (nI 20) (nI 400) (nI 11)) = _
  simp (disch := decide) only [fixE, layE, oneE]
  rfl
theorem ll_20 (row : Nat → Int32) : mF_StepMachineModel_layLong row (nI 20) = aps [(20, 0, 7, 19, 0), (20, 12, 3, 3, 0), (20, 15, 5, 200, 1), (20, 7, 5, 100, 1), (20, 20, 12, 400, 1)] row := by
  show (mF_StepMachineModel_lay (mF_StepMachineModel_lay (mF_StepMachineModel_lay (mF_StepMachineModel_fix (mF_StepMachineModel_fix row (nI 20) (nI 0) (nI 7) (nI 19)) (nI 20) (nI 12) (nI 3) (nI 3)) (nI 20) (nI 19) (nI 15) (nI 200) (nI 4)) (nI 20) (nI 11) (nI 7) (nI 100) (nI 4)) (nI 20) (nI 31) (nI 20) (nI 400) (nI 11)) = _
  simp (disch := decide) only [fixE, layE, oneE]
  rfl
theorem ll_21 (row : Nat → Int32) : mF_StepMachineModel_layLong row (nI 21) = aps [(21, 0, 7, 19, 0), (21, 12, 3, 4, 0), (21, 15, 5, 200, 1), (21, 7, 5, 100, 1), (21, 20, 12, 400, 1)] row := by
  show (mF_StepMachineModel_lay (mF_StepMachineModel_lay (mF_StepMachineModel_lay (mF_StepMachineModel_fix (mF_StepMachineModel_fix row (nI 21) (nI 0) (nI 7) (nI 19)) (nI 21) (nI 12) (nI 3) (nI 4)) (nI 21) (nI 19) (nI 15) (nI 200) (nI 4)) (nI 21) (nI 11) (nI 7) (nI 100) (nI 4)) (nI 21) (nI 31) (nI 20) (nI 400) (nI 11)) = _
  simp (disch := decide) only [fixE, layE, oneE]
  rfl
theorem ll_22 (row : Nat → Int32) : mF_StepMachineModel_layLong row (nI 22) = aps [(22, 0, 7, 19, 0), (22, 12, 3, 6, 0), (22, 15, 5, 200, 1), (22, 7, 5, 100, 1), (22, 20, 12, 400, 1)] row := by
  show (mF_StepMachineModel_lay (mF_StepMachineModel_lay (mF_StepMachineModel_lay (mF_StepMachineModel_fix (mF_StepMachineModel_fix row (nI 22) (nI 0) (nI 7) (nI 19)) (nI 22) (nI 12) (nI 3) (nI 6)) (nI 22) (nI 19) (nI 15) (nI 200) (nI 4)) (nI 22) (nI 11) (nI 7) (nI 100) (nI 4)) (nI 22) (nI 31) (nI 20) (nI 400) (nI 11)) = _
  simp (disch := decide) only [fixE, layE, oneE]
  rfl
theorem ll_23 (row : Nat → Int32) : mF_StepMachineModel_layLong row (nI 23) = aps [(23, 0, 7, 19, 0), (23, 12, 3, 7, 0), (23, 15, 5, 200, 1), (23, 7, 5, 100, 1), (23, 20, 12, 400, 1)] row := by
  show (mF_StepMachineModel_lay (mF_StepMachineModel_lay (mF_StepMachineModel_lay (mF_StepMachineModel_fix (mF_StepMachineModel_fix row (nI 23) (nI 0) (nI 7) (nI 19)) (nI 23) (nI 12) (nI 3) (nI 7)) (nI 23) (nI 19) (nI 15) (nI 200) (nI 4)) (nI 23) (nI 11) (nI 7) (nI 100) (nI 4)) (nI 23) (nI 31) (nI 20) (nI 400) (nI 11)) = _
  simp (disch := decide) only [fixE, layE, oneE]
  rfl
theorem ll_24 (row : Nat → Int32) : mF_StepMachineModel_layLong row (nI 24) = aps [(24, 0, 7, 19, 0), (24, 12, 3, 1, 0), (24, 15, 5, 200, 1), (24, 7, 5, 100, 1), (24, 20, 5, 400, 1), (24, 25, 7, 0, 0)] row := by
  show (mF_StepMachineModel_fix (mF_StepMachineModel_lay (mF_StepMachineModel_lay (mF_StepMachineModel_lay (mF_StepMachineModel_fix (mF_StepMachineModel_fix row (nI 24) (nI 0) (nI 7) (nI 19)) (nI 24) (nI 12) (nI 3) (nI 1)) (nI 24) (nI 19) (nI 15) (nI 200) (nI 4)) (nI 24) (nI 11) (nI 7) (nI 100) (nI 4)) (nI 24) (nI 24) (nI 20) (nI 400) (nI 4)) (nI 24) (nI 25) (nI 7) (nI 0)) = _
  simp (disch := decide) only [fixE, layE, oneE]
  rfl
theorem ll_25 (row : Nat → Int32) : mF_StepMachineModel_layLong row (nI 25) = aps [(25, 0, 7, 19, 0), (25, 12, 3, 5, 0), (25, 15, 5, 200, 1), (25, 7, 5, 100, 1), (25, 20, 5, 400, 1), (25, 25, 7, 0, 0)] row := by
  show (mF_StepMachineModel_fix (mF_StepMachineModel_lay (mF_StepMachineModel_lay (mF_StepMachineModel_lay (mF_StepMachineModel_fix (mF_StepMachineModel_fix row (nI 25) (nI 0) (nI 7) (nI 19)) (nI 25) (nI 12) (nI 3) (nI 5)) (nI 25) (nI 19) (nI 15) (nI 200) (nI 4)) (nI 25) (nI 11) (nI 7) (nI 100) (nI 4)) (nI 25) (nI 24) (nI 20) (nI 400) (nI 4)) (nI 25) (nI 25) (nI 7) (nI 0)) = _
  simp (disch := decide) only [fixE, layE, oneE]
  rfl
theorem ll_26 (row : Nat → Int32) : mF_StepMachineModel_layLong row (nI 26) = aps [(26, 0, 7, 19, 0), (26, 12, 3, 5, 0), (26, 15, 5, 200, 1), (26, 7, 5, 100, 1), (26, 20, 5, 400, 1), (26, 25, 7, 32, 0)] row := by
  show (mF_StepMachineModel_fix (mF_StepMachineModel_lay (mF_StepMachineModel_lay (mF_StepMachineModel_lay (mF_StepMachineModel_fix (mF_StepMachineModel_fix row (nI 26) (nI 0) (nI 7) (nI 19)) (nI 26) (nI 12) (nI 3) (nI 5)) (nI 26) (nI 19) (nI 15) (nI 200) (nI 4)) (nI 26) (nI 11) (nI 7) (nI 100) (nI 4)) (nI 26) (nI 24) (nI 20) (nI 400) (nI 4)) (nI 26) (nI 25) (nI 7) (nI 32)) = _
  simp (disch := decide) only [fixE, layE, oneE]
  rfl
theorem ll_27 (row : Nat → Int32) : mF_StepMachineModel_layLong row (nI 27) = aps [(27, 0, 7, 51, 0), (27, 12, 3, 0, 0), (27, 15, 5, 200, 1), (27, 7, 5, 100, 1), (27, 20, 5, 300, 1), (27, 25, 7, 0, 0)] row := by
  show (mF_StepMachineModel_fix (mF_StepMachineModel_lay (mF_StepMachineModel_lay (mF_StepMachineModel_lay (mF_StepMachineModel_fix (mF_StepMachineModel_fix row (nI 27) (nI 0) (nI 7) (nI 51)) (nI 27) (nI 12) (nI 3) (nI 0)) (nI 27) (nI 19) (nI 15) (nI 200) (nI 4)) (nI 27) (nI 11) (nI 7) (nI 100) (nI 4)) (nI 27) (nI 24) (nI 20) (nI 300) (nI 4)) (nI 27) (nI 25) (nI 7) (nI 0)) = _
  simp (disch := decide) only [fixE, layE, oneE]
  rfl
theorem ll_28 (row : Nat → Int32) : mF_StepMachineModel_layLong row (nI 28) = aps [(28, 0, 7, 51, 0), (28, 12, 3, 0, 0), (28, 15, 5, 200, 1), (28, 7, 5, 100, 1), (28, 20, 5, 300, 1), (28, 25, 7, 32, 0)] row := by
  show (mF_StepMachineModel_fix (mF_StepMachineModel_lay (mF_StepMachineModel_lay (mF_StepMachineModel_lay (mF_StepMachineModel_fix (mF_StepMachineModel_fix row (nI 28) (nI 0) (nI 7) (nI 51)) (nI 28) (nI 12) (nI 3) (nI 0)) (nI 28) (nI 19) (nI 15) (nI 200) (nI 4)) (nI 28) (nI 11) (nI 7) (nI 100) (nI 4)) (nI 28) (nI 24) (nI 20) (nI 300) (nI 4)) (nI 28) (nI 25) (nI 7) (nI 32)) = _
  simp (disch := decide) only [fixE, layE, oneE]
  rfl
theorem ll_29 (row : Nat → Int32) : mF_StepMachineModel_layLong row (nI 29) = aps [(29, 0, 7, 51, 0), (29, 12, 3, 1, 0), (29, 15, 5, 200, 1), (29, 7, 5, 100, 1), (29, 20, 5, 300, 1), (29, 25, 7, 0, 0)] row := by
  show (mF_StepMachineModel_fix (mF_StepMachineModel_lay (mF_StepMachineModel_lay (mF_StepMachineModel_lay (mF_StepMachineModel_fix (mF_StepMachineModel_fix row (nI 29) (nI 0) (nI 7) (nI 51)) (nI 29) (nI 12) (nI 3) (nI 1)) (nI 29) (nI 19) (nI 15) (nI 200) (nI 4)) (nI 29) (nI 11) (nI 7) (nI 100) (nI 4)) (nI 29) (nI 24) (nI 20) (nI 300) (nI 4)) (nI 29) (nI 25) (nI 7) (nI 0)) = _
  simp (disch := decide) only [fixE, layE, oneE]
  rfl
theorem ll_30 (row : Nat → Int32) : mF_StepMachineModel_layLong row (nI 30) = aps [(30, 0, 7, 51, 0), (30, 12, 3, 2, 0), (30, 15, 5, 200, 1), (30, 7, 5, 100, 1), (30, 20, 5, 300, 1), (30, 25, 7, 0, 0)] row := by
  show (mF_StepMachineModel_fix (mF_StepMachineModel_lay (mF_StepMachineModel_lay (mF_StepMachineModel_lay (mF_StepMachineModel_fix (mF_StepMachineModel_fix row (nI 30) (nI 0) (nI 7) (nI 51)) (nI 30) (nI 12) (nI 3) (nI 2)) (nI 30) (nI 19) (nI 15) (nI 200) (nI 4)) (nI 30) (nI 11) (nI 7) (nI 100) (nI 4)) (nI 30) (nI 24) (nI 20) (nI 300) (nI 4)) (nI 30) (nI 25) (nI 7) (nI 0)) = _
  simp (disch := decide) only [fixE, layE, oneE]
  rfl
theorem ll_31 (row : Nat → Int32) : mF_StepMachineModel_layLong row (nI 31) = aps [(31, 0, 7, 51, 0), (31, 12, 3, 3, 0), (31, 15, 5, 200, 1), (31, 7, 5, 100, 1), (31, 20, 5, 300, 1), (31, 25, 7, 0, 0)] row := by
  show (mF_StepMachineModel_fix (mF_StepMachineModel_lay (mF_StepMachineModel_lay (mF_StepMachineModel_lay (mF_StepMachineModel_fix (mF_StepMachineModel_fix row (nI 31) (nI 0) (nI 7) (nI 51)) (nI 31) (nI 12) (nI 3) (nI 3)) (nI 31) (nI 19) (nI 15) (nI 200) (nI 4)) (nI 31) (nI 11) (nI 7) (nI 100) (nI 4)) (nI 31) (nI 24) (nI 20) (nI 300) (nI 4)) (nI 31) (nI 25) (nI 7) (nI 0)) = _
  simp (disch := decide) only [fixE, layE, oneE]
  rfl
theorem ll_32 (row : Nat → Int32) : mF_StepMachineModel_layLong row (nI 32) = aps [(32, 0, 7, 51, 0), (32, 12, 3, 4, 0), (32, 15, 5, 200, 1), (32, 7, 5, 100, 1), (32, 20, 5, 300, 1), (32, 25, 7, 0, 0)] row := by
  show (mF_StepMachineModel_fix (mF_StepMachineModel_lay (mF_StepMachineModel_lay (mF_StepMachineModel_lay (mF_StepMachineModel_fix (mF_StepMachineModel_fix row (nI 32) (nI 0) (nI 7) (nI 51)) (nI 32) (nI 12) (nI 3) (nI 4)) (nI 32) (nI 19) (nI 15) (nI 200) (nI 4)) (nI 32) (nI 11) (nI 7) (nI 100) (nI 4)) (nI 32) (nI 24) (nI 20) (nI 300) (nI 4)) (nI 32) (nI 25) (nI 7) (nI 0)) = _
  simp (disch := decide) only [fixE, layE, oneE]
  rfl
theorem ll_33 (row : Nat → Int32) : mF_StepMachineModel_layLong row (nI 33) = aps [(33, 0, 7, 51, 0), (33, 12, 3, 5, 0), (33, 15, 5, 200, 1), (33, 7, 5, 100, 1), (33, 20, 5, 300, 1), (33, 25, 7, 0, 0)] row := by
  show (mF_StepMachineModel_fix (mF_StepMachineModel_lay (mF_StepMachineModel_lay (mF_StepMachineModel_lay (mF_StepMachineModel_fix (mF_StepMachineModel_fix row (nI 33) (nI 0) (nI 7) (nI 51)) (nI 33) (nI 12) (nI 3) (nI 5)) (nI 33) (nI 19) (nI 15) (nI 200) (nI 4)) (nI 33) (nI 11) (nI 7) (nI 100) (nI 4)) (nI 33) (nI 24) (nI 20) (nI 300) (nI 4)) (nI 33) (nI 25) (nI 7) (nI 0)) = _
  simp (disch := decide) only [fixE, layE, oneE]
  rfl
theorem ll_34 (row : Nat → Int32) : mF_StepMachineModel_layLong row (nI 34) = aps [(34, 0, 7, 51, 0), (34, 12, 3, 5, 0), (34, 15, 5, 200, 1), (34, 7, 5, 100, 1), (34, 20, 5, 300, 1), (34, 25, 7, 32, 0)] row := by
  show (mF_StepMachineModel_fix (mF_StepMachineModel_lay (mF_StepMachineModel_lay (mF_StepMachineModel_lay (mF_StepMachineModel_fix (mF_StepMachineModel_fix row (nI 34) (nI 0) (nI 7) (nI 51)) (nI 34) (nI 12) (nI 3) (nI 5)) (nI 34) (nI 19) (nI 15) (nI 200) (nI 4)) (nI 34) (nI 11) (nI 7) (nI 100) (nI 4)) (nI 34) (nI 24) (nI 20) (nI 300) (nI 4)) (nI 34) (nI 25) (nI 7) (nI 32)) = _
  simp (disch := decide) only [fixE, layE, oneE]
  rfl
theorem ll_35 (row : Nat → Int32) : mF_StepMachineModel_layLong row (nI 35) = aps [(35, 0, 7, 51, 0), (35, 12, 3, 6, 0), (35, 15, 5, 200, 1), (35, 7, 5, 100, 1), (35, 20, 5, 300, 1), (35, 25, 7, 0, 0)] row := by
  show (mF_StepMachineModel_fix (mF_StepMachineModel_lay (mF_StepMachineModel_lay (mF_StepMachineModel_lay (mF_StepMachineModel_fix (mF_StepMachineModel_fix row (nI 35) (nI 0) (nI 7) (nI 51)) (nI 35) (nI 12) (nI 3) (nI 6)) (nI 35) (nI 19) (nI 15) (nI 200) (nI 4)) (nI 35) (nI 11) (nI 7) (nI 100) (nI 4)) (nI 35) (nI 24) (nI 20) (nI 300) (nI 4)) (nI 35) (nI 25) (nI 7) (nI 0)) = _
  simp (disch := decide) only [fixE, layE, oneE]
  rfl
theorem ll_36 (row : Nat → Int32) : mF_StepMachineModel_layLong row (nI 36) = aps [(36, 0, 7, 51, 0), (36, 12, 3, 7, 0), (36, 15, 5, 200, 1), (36, 7, 5, 100, 1), (36, 20, 5, 300, 1), (36, 25, 7, 0, 0)] row := by
  show (mF_StepMachineModel_fix (mF_StepMachineModel_lay (mF_StepMachineModel_lay (mF_StepMachineModel_lay (mF_StepMachineModel_fix (mF_StepMachineModel_fix row (nI 36) (nI 0) (nI 7) (nI 51)) (nI 36) (nI 12) (nI 3) (nI 7)) (nI 36) (nI 19) (nI 15) (nI 200) (nI 4)) (nI 36) (nI 11) (nI 7) (nI 100) (nI 4)) (nI 36) (nI 24) (nI 20) (nI 300) (nI 4)) (nI 36) (nI 25) (nI 7) (nI 0)) = _
  simp (disch := decide) only [fixE, layE, oneE]
  rfl
theorem ll_37 (row : Nat → Int32) : mF_StepMachineModel_layLong row (nI 37) = aps [(37, 0, 7, 51, 0), (37, 12, 3, 0, 0), (37, 15, 5, 200, 1), (37, 7, 5, 100, 1), (37, 20, 5, 300, 1), (37, 25, 7, 1, 0)] row := by
  show (mF_StepMachineModel_fix (mF_StepMachineModel_lay (mF_StepMachineModel_lay (mF_StepMachineModel_lay (mF_StepMachineModel_fix (mF_StepMachineModel_fix row (nI 37) (nI 0) (nI 7) (nI 51)) (nI 37) (nI 12) (nI 3) (nI 0)) (nI 37) (nI 19) (nI 15) (nI 200) (nI 4)) (nI 37) (nI 11) (nI 7) (nI 100) (nI 4)) (nI 37) (nI 24) (nI 20) (nI 300) (nI 4)) (nI 37) (nI 25) (nI 7) (nI 1)) = _
  simp (disch := decide) only [fixE, layE, oneE]
  rfl
theorem ll_38 (row : Nat → Int32) : mF_StepMachineModel_layLong row (nI 38) = aps [(38, 0, 7, 51, 0), (38, 12, 3, 1, 0), (38, 15, 5, 200, 1), (38, 7, 5, 100, 1), (38, 20, 5, 300, 1), (38, 25, 7, 1, 0)] row := by
  show (mF_StepMachineModel_fix (mF_StepMachineModel_lay (mF_StepMachineModel_lay (mF_StepMachineModel_lay (mF_StepMachineModel_fix (mF_StepMachineModel_fix row (nI 38) (nI 0) (nI 7) (nI 51)) (nI 38) (nI 12) (nI 3) (nI 1)) (nI 38) (nI 19) (nI 15) (nI 200) (nI 4)) (nI 38) (nI 11) (nI 7) (nI 100) (nI 4)) (nI 38) (nI 24) (nI 20) (nI 300) (nI 4)) (nI 38) (nI 25) (nI 7) (nI 1)) = _
  simp (disch := decide) only [fixE, layE, oneE]
  rfl
theorem ll_39 (row : Nat → Int32) : mF_StepMachineModel_layLong row (nI 39) = aps [(39, 0, 7, 51, 0), (39, 12, 3, 2, 0), (39, 15, 5, 200, 1), (39, 7, 5, 100, 1), (39, 20, 5, 300, 1), (39, 25, 7, 1, 0)] row := by
  show (mF_StepMachineModel_fix (mF_StepMachineModel_lay (mF_StepMachineModel_lay (mF_StepMachineModel_lay (mF_StepMachineModel_fix (mF_StepMachineModel_fix row (nI 39) (nI 0) (nI 7) (nI 51)) (nI 39) (nI 12) (nI 3) (nI 2)) (nI 39) (nI 19) (nI 15) (nI 200) (nI 4)) (nI 39) (nI 11) (nI 7) (nI 100) (nI 4)) (nI 39) (nI 24) (nI 20) (nI 300) (nI 4)) (nI 39) (nI 25) (nI 7) (nI 1)) = _
  simp (disch := decide) only [fixE, layE, oneE]
  rfl
theorem ll_40 (row : Nat → Int32) : mF_StepMachineModel_layLong row (nI 40) = aps [(40, 0, 7, 51, 0), (40, 12, 3, 3, 0), (40, 15, 5, 200, 1), (40, 7, 5, 100, 1), (40, 20, 5, 300, 1), (40, 25, 7, 1, 0)] row := by
  show (mF_StepMachineModel_fix (mF_StepMachineModel_lay (mF_StepMachineModel_lay (mF_StepMachineModel_lay (mF_StepMachineModel_fix (mF_StepMachineModel_fix row (nI 40) (nI 0) (nI 7) (nI 51)) (nI 40) (nI 12) (nI 3) (nI 3)) (nI 40) (nI 19) (nI 15) (nI 200) (nI 4)) (nI 40) (nI 11) (nI 7) (nI 100) (nI 4)) (nI 40) (nI 24) (nI 20) (nI 300) (nI 4)) (nI 40) (nI 25) (nI 7) (nI 1)) = _
  simp (disch := decide) only [fixE, layE, oneE]
  rfl
theorem ll_41 (row : Nat → Int32) : mF_StepMachineModel_layLong row (nI 41) = aps [(41, 0, 7, 51, 0), (41, 12, 3, 4, 0), (41, 15, 5, 200, 1), (41, 7, 5, 100, 1), (41, 20, 5, 300, 1), (41, 25, 7, 1, 0)] row := by
  show (mF_StepMachineModel_fix (mF_StepMachineModel_lay (mF_StepMachineModel_lay (mF_StepMachineModel_lay (mF_StepMachineModel_fix (mF_StepMachineModel_fix row (nI 41) (nI 0) (nI 7) (nI 51)) (nI 41) (nI 12) (nI 3) (nI 4)) (nI 41) (nI 19) (nI 15) (nI 200) (nI 4)) (nI 41) (nI 11) (nI 7) (nI 100) (nI 4)) (nI 41) (nI 24) (nI 20) (nI 300) (nI 4)) (nI 41) (nI 25) (nI 7) (nI 1)) = _
  simp (disch := decide) only [fixE, layE, oneE]
  rfl
theorem ll_42 (row : Nat → Int32) : mF_StepMachineModel_layLong row (nI 42) = aps [(42, 0, 7, 51, 0), (42, 12, 3, 5, 0), (42, 15, 5, 200, 1), (42, 7, 5, 100, 1), (42, 20, 5, 300, 1), (42, 25, 7, 1, 0)] row := by
  show (mF_StepMachineModel_fix (mF_StepMachineModel_lay (mF_StepMachineModel_lay (mF_StepMachineModel_lay (mF_StepMachineModel_fix (mF_StepMachineModel_fix row (nI 42) (nI 0) (nI 7) (nI 51)) (nI 42) (nI 12) (nI 3) (nI 5)) (nI 42) (nI 19) (nI 15) (nI 200) (nI 4)) (nI 42) (nI 11) (nI 7) (nI 100) (nI 4)) (nI 42) (nI 24) (nI 20) (nI 300) (nI 4)) (nI 42) (nI 25) (nI 7) (nI 1)) = _
  simp (disch := decide) only [fixE, layE, oneE]
  rfl
theorem ll_43 (row : Nat → Int32) : mF_StepMachineModel_layLong row (nI 43) = aps [(43, 0, 7, 51, 0), (43, 12, 3, 6, 0), (43, 15, 5, 200, 1), (43, 7, 5, 100, 1), (43, 20, 5, 300, 1), (43, 25, 7, 1, 0)] row := by
  show (mF_StepMachineModel_fix (mF_StepMachineModel_lay (mF_StepMachineModel_lay (mF_StepMachineModel_lay (mF_StepMachineModel_fix (mF_StepMachineModel_fix row (nI 43) (nI 0) (nI 7) (nI 51)) (nI 43) (nI 12) (nI 3) (nI 6)) (nI 43) (nI 19) (nI 15) (nI 200) (nI 4)) (nI 43) (nI 11) (nI 7) (nI 100) (nI 4)) (nI 43) (nI 24) (nI 20) (nI 300) (nI 4)) (nI 43) (nI 25) (nI 7) (nI 1)) = _
  simp (disch := decide) only [fixE, layE, oneE]
  rfl
theorem ll_44 (row : Nat → Int32) : mF_StepMachineModel_layLong row (nI 44) = aps [(44, 0, 7, 51, 0), (44, 12, 3, 7, 0), (44, 15, 5, 200, 1), (44, 7, 5, 100, 1), (44, 20, 5, 300, 1), (44, 25, 7, 1, 0)] row := by
  show (mF_StepMachineModel_fix (mF_StepMachineModel_lay (mF_StepMachineModel_lay (mF_StepMachineModel_lay (mF_StepMachineModel_fix (mF_StepMachineModel_fix row (nI 44) (nI 0) (nI 7) (nI 51)) (nI 44) (nI 12) (nI 3) (nI 7)) (nI 44) (nI 19) (nI 15) (nI 200) (nI 4)) (nI 44) (nI 11) (nI 7) (nI 100) (nI 4)) (nI 44) (nI 24) (nI 20) (nI 300) (nI 4)) (nI 44) (nI 25) (nI 7) (nI 1)) = _
  simp (disch := decide) only [fixE, layE, oneE]
  rfl
theorem ll_45 (row : Nat → Int32) : mF_StepMachineModel_layLong row (nI 45) = aps [(45, 0, 32, 267386895, 0)] row := by
  show (mF_StepMachineModel_fix row (nI 45) (nI 0) (nI 32) (nI 267386895)) = _
  simp (disch := decide) only [fixE, layE, oneE]
  rfl
theorem ll_46 (row : Nat → Int32) : mF_StepMachineModel_layLong row (nI 46) = aps [(46, 0, 32, 115, 0)] row := by
  show (mF_StepMachineModel_fix row (nI 46) (nI 0) (nI 32) (nI 115)) = _
  simp (disch := decide) only [fixE, layE, oneE]
  rfl
theorem ll_47 (row : Nat → Int32) : mF_StepMachineModel_layLong row (nI 47) = aps [(47, 0, 32, 1048691, 0)] row := by
  show (mF_StepMachineModel_fix row (nI 47) (nI 0) (nI 32) (nI 1048691)) = _
  simp (disch := decide) only [fixE, layE, oneE]
  rfl
def opsL : List (List (Nat × Nat × Nat × Nat × Nat)) := [[(0, 0, 7, 55, 0), (0, 7, 5, 100, 1), (0, 12, 20, 400, 1)],
  [(1, 0, 7, 23, 0), (1, 7, 5, 100, 1), (1, 12, 20, 400, 1)],
  [(2, 0, 7, 111, 0), (2, 7, 5, 100, 1), (2, 31, 1, 420, 1), (2, 21, 10, 401, 1), (2, 20, 1, 411, 1), (2, 12, 8, 412, 1)],
  [(3, 0, 7, 103, 0), (3, 12, 3, 0, 0), (3, 15, 5, 200, 1), (3, 7, 5, 100, 1), (3, 20, 12, 400, 1)],
  [(4, 0, 7, 99, 0), (4, 12, 3, 0, 0), (4, 15, 5, 200, 1), (4, 20, 5, 300, 1), (4, 31, 1, 412, 1), (4, 25, 6, 405, 1), (4, 8, 4, 401, 1), (4, 7, 1, 411, 1)],
  [(5, 0, 7, 99, 0), (5, 12, 3, 1, 0), (5, 15, 5, 200, 1), (5, 20, 5, 300, 1), (5, 31, 1, 412, 1), (5, 25, 6, 405, 1), (5, 8, 4, 401, 1), (5, 7, 1, 411, 1)],
  [(6, 0, 7, 99, 0), (6, 12, 3, 4, 0), (6, 15, 5, 200, 1), (6, 20, 5, 300, 1), (6, 31, 1, 412, 1), (6, 25, 6, 405, 1), (6, 8, 4, 401, 1), (6, 7, 1, 411, 1)],
  [(7, 0, 7, 99, 0), (7, 12, 3, 5, 0), (7, 15, 5, 200, 1), (7, 20, 5, 300, 1), (7, 31, 1, 412, 1), (7, 25, 6, 405, 1), (7, 8, 4, 401, 1), (7, 7, 1, 411, 1)],
  [(8, 0, 7, 99, 0), (8, 12, 3, 6, 0), (8, 15, 5, 200, 1), (8, 20, 5, 300, 1), (8, 31, 1, 412, 1), (8, 25, 6, 405, 1), (8, 8, 4, 401, 1), (8, 7, 1, 411, 1)],
  [(9, 0, 7, 99, 0), (9, 12, 3, 7, 0), (9, 15, 5, 200, 1), (9, 20, 5, 300, 1), (9, 31, 1, 412, 1), (9, 25, 6, 405, 1), (9, 8, 4, 401, 1), (9, 7, 1, 411, 1)],
  [(10, 0, 7, 3, 0), (10, 12, 3, 0, 0), (10, 15, 5, 200, 1), (10, 7, 5, 100, 1), (10, 20, 12, 400, 1)],
  [(11, 0, 7, 3, 0), (11, 12, 3, 1, 0), (11, 15, 5, 200, 1), (11, 7, 5, 100, 1), (11, 20, 12, 400, 1)],
  [(12, 0, 7, 3, 0), (12, 12, 3, 2, 0), (12, 15, 5, 200, 1), (12, 7, 5, 100, 1), (12, 20, 12, 400, 1)],
  [(13, 0, 7, 3, 0), (13, 12, 3, 4, 0), (13, 15, 5, 200, 1), (13, 7, 5, 100, 1), (13, 20, 12, 400, 1)],
  [(14, 0, 7, 3, 0), (14, 12, 3, 5, 0), (14, 15, 5, 200, 1), (14, 7, 5, 100, 1), (14, 20, 12, 400, 1)],
  [(15, 0, 7, 35, 0), (15, 12, 3, 0, 0), (15, 15, 5, 200, 1), (15, 20, 5, 300, 1), (15, 25, 7, 405, 1), (15, 7, 5, 400, 1)],
  [(16, 0, 7, 35, 0), (16, 12, 3, 1, 0), (16, 15, 5, 200, 1), (16, 20, 5, 300, 1), (16, 25, 7, 405, 1), (16, 7, 5, 400, 1)],
  [(17, 0, 7, 35, 0), (17, 12, 3, 2, 0), (17, 15, 5, 200, 1), (17, 20, 5, 300, 1), (17, 25, 7, 405, 1), (17, 7, 5, 400, 1)],
  [(18, 0, 7, 19, 0), (18, 12, 3, 0, 0), (18, 15, 5, 200, 1), (18, 7, 5, 100, 1), (18, 20, 12, 400, 1)],
  [(19, 0, 7, 19, 0), (19, 12, 3, 2, 0), (19, 15, 5, 200, 1), (19, 7, 5, 100, 1), (19, 20, 12, 400, 1)],
  [(20, 0, 7, 19, 0), (20, 12, 3, 3, 0), (20, 15, 5, 200, 1), (20, 7, 5, 100, 1), (20, 20, 12, 400, 1)],
  [(21, 0, 7, 19, 0), (21, 12, 3, 4, 0), (21, 15, 5, 200, 1), (21, 7, 5, 100, 1), (21, 20, 12, 400, 1)],
  [(22, 0, 7, 19, 0), (22, 12, 3, 6, 0), (22, 15, 5, 200, 1), (22, 7, 5, 100, 1), (22, 20, 12, 400, 1)],
  [(23, 0, 7, 19, 0), (23, 12, 3, 7, 0), (23, 15, 5, 200, 1), (23, 7, 5, 100, 1), (23, 20, 12, 400, 1)],
  [(24, 0, 7, 19, 0), (24, 12, 3, 1, 0), (24, 15, 5, 200, 1), (24, 7, 5, 100, 1), (24, 20, 5, 400, 1), (24, 25, 7, 0, 0)],
  [(25, 0, 7, 19, 0), (25, 12, 3, 5, 0), (25, 15, 5, 200, 1), (25, 7, 5, 100, 1), (25, 20, 5, 400, 1), (25, 25, 7, 0, 0)],
  [(26, 0, 7, 19, 0), (26, 12, 3, 5, 0), (26, 15, 5, 200, 1), (26, 7, 5, 100, 1), (26, 20, 5, 400, 1), (26, 25, 7, 32, 0)],
  [(27, 0, 7, 51, 0), (27, 12, 3, 0, 0), (27, 15, 5, 200, 1), (27, 7, 5, 100, 1), (27, 20, 5, 300, 1), (27, 25, 7, 0, 0)],
  [(28, 0, 7, 51, 0), (28, 12, 3, 0, 0), (28, 15, 5, 200, 1), (28, 7, 5, 100, 1), (28, 20, 5, 300, 1), (28, 25, 7, 32, 0)],
  [(29, 0, 7, 51, 0), (29, 12, 3, 1, 0), (29, 15, 5, 200, 1), (29, 7, 5, 100, 1), (29, 20, 5, 300, 1), (29, 25, 7, 0, 0)],
  [(30, 0, 7, 51, 0), (30, 12, 3, 2, 0), (30, 15, 5, 200, 1), (30, 7, 5, 100, 1), (30, 20, 5, 300, 1), (30, 25, 7, 0, 0)],
  [(31, 0, 7, 51, 0), (31, 12, 3, 3, 0), (31, 15, 5, 200, 1), (31, 7, 5, 100, 1), (31, 20, 5, 300, 1), (31, 25, 7, 0, 0)],
  [(32, 0, 7, 51, 0), (32, 12, 3, 4, 0), (32, 15, 5, 200, 1), (32, 7, 5, 100, 1), (32, 20, 5, 300, 1), (32, 25, 7, 0, 0)],
  [(33, 0, 7, 51, 0), (33, 12, 3, 5, 0), (33, 15, 5, 200, 1), (33, 7, 5, 100, 1), (33, 20, 5, 300, 1), (33, 25, 7, 0, 0)],
  [(34, 0, 7, 51, 0), (34, 12, 3, 5, 0), (34, 15, 5, 200, 1), (34, 7, 5, 100, 1), (34, 20, 5, 300, 1), (34, 25, 7, 32, 0)],
  [(35, 0, 7, 51, 0), (35, 12, 3, 6, 0), (35, 15, 5, 200, 1), (35, 7, 5, 100, 1), (35, 20, 5, 300, 1), (35, 25, 7, 0, 0)],
  [(36, 0, 7, 51, 0), (36, 12, 3, 7, 0), (36, 15, 5, 200, 1), (36, 7, 5, 100, 1), (36, 20, 5, 300, 1), (36, 25, 7, 0, 0)],
  [(37, 0, 7, 51, 0), (37, 12, 3, 0, 0), (37, 15, 5, 200, 1), (37, 7, 5, 100, 1), (37, 20, 5, 300, 1), (37, 25, 7, 1, 0)],
  [(38, 0, 7, 51, 0), (38, 12, 3, 1, 0), (38, 15, 5, 200, 1), (38, 7, 5, 100, 1), (38, 20, 5, 300, 1), (38, 25, 7, 1, 0)],
  [(39, 0, 7, 51, 0), (39, 12, 3, 2, 0), (39, 15, 5, 200, 1), (39, 7, 5, 100, 1), (39, 20, 5, 300, 1), (39, 25, 7, 1, 0)],
  [(40, 0, 7, 51, 0), (40, 12, 3, 3, 0), (40, 15, 5, 200, 1), (40, 7, 5, 100, 1), (40, 20, 5, 300, 1), (40, 25, 7, 1, 0)],
  [(41, 0, 7, 51, 0), (41, 12, 3, 4, 0), (41, 15, 5, 200, 1), (41, 7, 5, 100, 1), (41, 20, 5, 300, 1), (41, 25, 7, 1, 0)],
  [(42, 0, 7, 51, 0), (42, 12, 3, 5, 0), (42, 15, 5, 200, 1), (42, 7, 5, 100, 1), (42, 20, 5, 300, 1), (42, 25, 7, 1, 0)],
  [(43, 0, 7, 51, 0), (43, 12, 3, 6, 0), (43, 15, 5, 200, 1), (43, 7, 5, 100, 1), (43, 20, 5, 300, 1), (43, 25, 7, 1, 0)],
  [(44, 0, 7, 51, 0), (44, 12, 3, 7, 0), (44, 15, 5, 200, 1), (44, 7, 5, 100, 1), (44, 20, 5, 300, 1), (44, 25, 7, 1, 0)],
  [(45, 0, 32, 267386895, 0)],
  [(46, 0, 32, 115, 0)],
  [(47, 0, 32, 1048691, 0)]]
theorem lp_L69 (row : Nat → Int32) : (mF_StepMachineModel_layShort_L69 (((51 : Int32).toInt - (49 : Int32).toInt).toNat + 1) (49 : Int32) row).2 = aps [(49, 13, 3, 2, 0), (49, 0, 2, 0, 0), (49, 10, 3, 403, 1), (49, 7, 3, 600, 1), (49, 6, 1, 402, 1), (49, 5, 1, 406, 1), (49, 2, 3, 500, 1), (50, 13, 3, 6, 0), (50, 0, 2, 0, 0), (50, 10, 3, 403, 1), (50, 7, 3, 600, 1), (50, 6, 1, 402, 1), (50, 5, 1, 406, 1), (50, 2, 3, 700, 1)] row := by
  rw [show (((51 : Int32).toInt - (49 : Int32).toInt).toNat + 1) = 3 from by decide]
  show (mF_StepMachineModel_lay (mF_StepMachineModel_one (mF_StepMachineModel_one (mF_StepMachineModel_lay (mF_StepMachineModel_lay (mF_StepMachineModel_fix (mF_StepMachineModel_fix (mF_StepMachineModel_lay (mF_StepMachineModel_one (mF_StepMachineModel_one (mF_StepMachineModel_lay (mF_StepMachineModel_lay (mF_StepMachineModel_fix (mF_StepMachineModel_fix row (nI 49) (nI 13) (nI 3) (nI 2)) (nI 49) (nI 0) (nI 2) (nI 0)) (nI 49) (nI 12) (nI 10) (nI 400) (nI 5)) (nI 49) (nI 9) (nI 7) (nI 600) (nI 2)) (nI 49) (nI 6) (nI 2)) (nI 49) (nI 5) (nI 6)) (nI 49) (nI 4) (nI 2) (nI 500) (nI 2)) (nI 50) (nI 13) (nI 3) (nI 6)) (nI 50) (nI 0) (nI 2) (nI 0)) (nI 50) (nI 12) (nI 10) (nI 400) (nI 5)) (nI 50) (nI 9) (nI 7) (nI 600) (nI 2)) (nI 50) (nI 6) (nI 2)) (nI 50) (nI 5) (nI 6)) (nI 50) (nI 4) (nI 2) (nI 700) (nI 2)) = _
  simp (disch := decide) only [fixE, layE, oneE]
  rfl
theorem lp_L177 (row : Nat → Int32) : (mF_StepMachineModel_layShort_L177 (((57 : Int32).toInt - (52 : Int32).toInt).toNat + 1) (52 : Int32) row).2 = aps [(52, 13, 3, 0, 0), (52, 0, 2, 1, 0), (52, 12, 1, 405, 1), (52, 7, 5, 100, 1), (52, 2, 5, 400, 1), (54, 13, 3, 2, 0), (54, 0, 2, 1, 0), (54, 12, 1, 405, 1), (54, 7, 5, 100, 1), (54, 2, 5, 400, 1), (56, 13, 3, 3, 0), (56, 0, 2, 1, 0), (56, 12, 1, 405, 1), (56, 7, 5, 100, 1), (56, 2, 5, 400, 1)] row := by
  rw [show (((57 : Int32).toInt - (52 : Int32).toInt).toNat + 1) = 6 from by decide]
  show (mF_StepMachineModel_lay (mF_StepMachineModel_lay (mF_StepMachineModel_one (mF_StepMachineModel_fix (mF_StepMachineModel_fix (mF_StepMachineModel_lay (mF_StepMachineModel_lay (mF_StepMachineModel_one (mF_StepMachineModel_fix (mF_StepMachineModel_fix (mF_StepMachineModel_lay (mF_StepMachineModel_lay (mF_StepMachineModel_one (mF_StepMachineModel_fix (mF_StepMachineModel_fix row (nI 52) (nI 13) (nI 3) (nI 0)) (nI 52) (nI 0) (nI 2) (nI 1)) (nI 52) (nI 12) (nI 5)) (nI 52) (nI 11) (nI 7) (nI 100) (nI 4)) (nI 52) (nI 6) (nI 2) (nI 400) (nI 4)) (nI 54) (nI 13) (nI 3) (nI 2)) (nI 54) (nI 0) (nI 2) (nI 1)) (nI 54) (nI 12) (nI 5)) (nI 54) (nI 11) (nI 7) (nI 100) (nI 4)) (nI 54) (nI 6) (nI 2) (nI 400) (nI 4)) (nI 56) (nI 13) (nI 3) (nI 3)) (nI 56) (nI 0) (nI 2) (nI 1)) (nI 56) (nI 12) (nI 5)) (nI 56) (nI 11) (nI 7) (nI 100) (nI 4)) (nI 56) (nI 6) (nI 2) (nI 400) (nI 4)) = _
  simp (disch := decide) only [fixE, layE, oneE]
  rfl
theorem lp_L347 (row : Nat → Int32) : (mF_StepMachineModel_layShort_L347 (((60 : Int32).toInt - (57 : Int32).toInt).toNat + 1) (57 : Int32) row).2 = aps [(57, 13, 3, 4, 0), (57, 0, 2, 1, 0), (57, 10, 3, 0, 0), (57, 7, 3, 500, 1), (57, 2, 5, 400, 1), (58, 13, 3, 4, 0), (58, 0, 2, 1, 0), (58, 10, 3, 1, 0), (58, 7, 3, 500, 1), (58, 2, 5, 400, 1), (59, 13, 3, 4, 0), (59, 0, 2, 1, 0), (59, 10, 3, 2, 0), (59, 12, 1, 405, 1), (59, 7, 3, 500, 1), (59, 2, 5, 400, 1)] row := by
  rw [show (((60 : Int32).toInt - (57 : Int32).toInt).toNat + 1) = 4 from by decide]
  show (mF_StepMachineModel_lay (mF_StepMachineModel_lay (mF_StepMachineModel_one (mF_StepMachineModel_fix (mF_StepMachineModel_fix (mF_StepMachineModel_fix (mF_StepMachineModel_lay (mF_StepMachineModel_lay (mF_StepMachineModel_fix (mF_StepMachineModel_fix (mF_StepMachineModel_fix (mF_StepMachineModel_lay (mF_StepMachineModel_lay (mF_StepMachineModel_fix (mF_StepMachineModel_fix (mF_StepMachineModel_fix row (nI 57) (nI 13) (nI 3) (nI 4)) (nI 57) (nI 0) (nI 2) (nI 1)) (nI 57) (nI 10) (nI 3) (nI 0)) (nI 57) (nI 9) (nI 7) (nI 500) (nI 2)) (nI 57) (nI 6) (nI 2) (nI 400) (nI 4)) (nI 58) (nI 13) (nI 3) (nI 4)) (nI 58) (nI 0) (nI 2) (nI 1)) (nI 58) (nI 10) (nI 3) (nI 1)) (nI 58) (nI 9) (nI 7) (nI 500) (nI 2)) (nI 58) (nI 6) (nI 2) (nI 400) (nI 4)) (nI 59) (nI 13) (nI 3) (nI 4)) (nI 59) (nI 0) (nI 2) (nI 1)) (nI 59) (nI 10) (nI 3) (nI 2)) (nI 59) (nI 12) (nI 5)) (nI 59) (nI 9) (nI 7) (nI 500) (nI 2)) (nI 59) (nI 6) (nI 2) (nI 400) (nI 4)) = _
  simp (disch := decide) only [fixE, layE, oneE]
  rfl
theorem lp_L420 (row : Nat → Int32) : (mF_StepMachineModel_layShort_L420 (((64 : Int32).toInt - (60 : Int32).toInt).toNat + 1) (60 : Int32) row).2 = aps [(60, 13, 3, 4, 0), (60, 0, 2, 1, 0), (60, 10, 3, 3, 0), (60, 7, 3, 500, 1), (60, 5, 2, 0, 0), (60, 2, 3, 700, 1), (61, 13, 3, 4, 0), (61, 0, 2, 1, 0), (61, 10, 3, 3, 0), (61, 7, 3, 500, 1), (61, 5, 2, 1, 0), (61, 2, 3, 700, 1), (62, 13, 3, 4, 0), (62, 0, 2, 1, 0), (62, 10, 3, 3, 0), (62, 7, 3, 500, 1), (62, 5, 2, 2, 0), (62, 2, 3, 700, 1), (63, 13, 3, 4, 0), (63, 0, 2, 1, 0), (63, 10, 3, 3, 0), (63, 7, 3, 500, 1), (63, 5, 2, 3, 0), (63, 2, 3, 700, 1)] row := by
  rw [show (((64 : Int32).toInt - (60 : Int32).toInt).toNat + 1) = 5 from by decide]
  show (mF_StepMachineModel_lay (mF_StepMachineModel_fix (mF_StepMachineModel_lay (mF_StepMachineModel_fix (mF_StepMachineModel_fix (mF_StepMachineModel_fix (mF_StepMachineModel_lay (mF_StepMachineModel_fix (mF_StepMachineModel_lay (mF_StepMachineModel_fix (mF_StepMachineModel_fix (mF_StepMachineModel_fix (mF_StepMachineModel_lay (mF_StepMachineModel_fix (mF_StepMachineModel_lay (mF_StepMachineModel_fix (mF_StepMachineModel_fix (mF_StepMachineModel_fix (mF_StepMachineModel_lay (mF_StepMachineModel_fix (mF_StepMachineModel_lay (mF_StepMachineModel_fix (mF_StepMachineModel_fix (mF_StepMachineModel_fix row (nI 60) (nI 13) (nI 3) (nI 4)) (nI 60) (nI 0) (nI 2) (nI 1)) (nI 60) (nI 10) (nI 3) (nI 3)) (nI 60) (nI 9) (nI 7) (nI 500) (nI 2)) (nI 60) (nI 5) (nI 2) (nI 0)) (nI 60) (nI 4) (nI 2) (nI 700) (nI 2)) (nI 61) (nI 13) (nI 3) (nI 4)) (nI 61) (nI 0) (nI 2) (nI 1)) (nI 61) (nI 10) (nI 3) (nI 3)) (nI 61) (nI 9) (nI 7) (nI 500) (nI 2)) (nI 61) (nI 5) (nI 2) (nI 1)) (nI 61) (nI 4) (nI 2) (nI 700) (nI 2)) (nI 62) (nI 13) (nI 3) (nI 4)) (nI 62) (nI 0) (nI 2) (nI 1)) (nI 62) (nI 10) (nI 3) (nI 3)) (nI 62) (nI 9) (nI 7) (nI 500) (nI 2)) (nI 62) (nI 5) (nI 2) (nI 2)) (nI 62) (nI 4) (nI 2) (nI 700) (nI 2)) (nI 63) (nI 13) (nI 3) (nI 4)) (nI 63) (nI 0) (nI 2) (nI 1)) (nI 63) (nI 10) (nI 3) (nI 3)) (nI 63) (nI 9) (nI 7) (nI 500) (nI 2)) (nI 63) (nI 5) (nI 2) (nI 3)) (nI 63) (nI 4) (nI 2) (nI 700) (nI 2)) = _
  simp (disch := decide) only [fixE, layE, oneE]
  rfl
theorem lp_L486 (row : Nat → Int32) : (mF_StepMachineModel_layShort_L486 (((67 : Int32).toInt - (65 : Int32).toInt).toNat + 1) (65 : Int32) row).2 = aps [(65, 13, 3, 6, 0), (65, 0, 2, 1, 0), (65, 12, 1, 408, 1), (65, 10, 2, 403, 1), (65, 7, 3, 600, 1), (65, 5, 2, 406, 1), (65, 3, 2, 401, 1), (65, 2, 1, 405, 1), (66, 13, 3, 7, 0), (66, 0, 2, 1, 0), (66, 12, 1, 408, 1), (66, 10, 2, 403, 1), (66, 7, 3, 600, 1), (66, 5, 2, 406, 1), (66, 3, 2, 401, 1), (66, 2, 1, 405, 1)] row := by
  rw [show (((67 : Int32).toInt - (65 : Int32).toInt).toNat + 1) = 3 from by decide]
  show (mF_StepMachineModel_one (mF_StepMachineModel_lay (mF_StepMachineModel_lay (mF_StepMachineModel_lay (mF_StepMachineModel_lay (mF_StepMachineModel_one (mF_StepMachineModel_fix (mF_StepMachineModel_fix (mF_StepMachineModel_one (mF_StepMachineModel_lay (mF_StepMachineModel_lay (mF_StepMachineModel_lay (mF_StepMachineModel_lay (mF_StepMachineModel_one (mF_StepMachineModel_fix (mF_StepMachineModel_fix row (nI 65) (nI 13) (nI 3) (nI 6)) (nI 65) (nI 0) (nI 2) (nI 1)) (nI 65) (nI 12) (nI 8)) (nI 65) (nI 11) (nI 10) (nI 400) (nI 4)) (nI 65) (nI 9) (nI 7) (nI 600) (nI 2)) (nI 65) (nI 6) (nI 5) (nI 400) (nI 7)) (nI 65) (nI 4) (nI 3) (nI 400) (nI 2)) (nI 65) (nI 2) (nI 5)) (nI 66) (nI 13) (nI 3) (nI 7)) (nI 66) (nI 0) (nI 2) (nI 1)) (nI 66) (nI 12) (nI 8)) (nI 66) (nI 11) (nI 10) (nI 400) (nI 4)) (nI 66) (nI 9) (nI 7) (nI 600) (nI 2)) (nI 66) (nI 6) (nI 5) (nI 400) (nI 7)) (nI 66) (nI 4) (nI 3) (nI 400) (nI 2)) (nI 66) (nI 2) (nI 5)) = _
  simp (disch := decide) only [fixE, layE, oneE]
  rfl
theorem lp_L676 (row : Nat → Int32) : (mF_StepMachineModel_layShort_L676 (((74 : Int32).toInt - (69 : Int32).toInt).toNat + 1) (69 : Int32) row).2 = aps [(69, 13, 3, 4, 0), (69, 0, 2, 2, 0), (69, 12, 1, 0, 0), (69, 7, 5, 200, 1), (70, 13, 3, 4, 0), (70, 0, 2, 2, 0), (70, 12, 1, 0, 0), (70, 7, 5, 100, 1), (70, 2, 5, 300, 1), (71, 13, 3, 4, 0), (71, 0, 2, 2, 0), (71, 12, 1, 1, 0), (72, 13, 3, 4, 0), (72, 0, 2, 2, 0), (72, 12, 1, 1, 0), (72, 7, 5, 200, 1), (73, 13, 3, 4, 0), (73, 0, 2, 2, 0), (73, 12, 1, 1, 0), (73, 7, 5, 100, 1), (73, 2, 5, 300, 1)] row := by
  rw [show (((74 : Int32).toInt - (69 : Int32).toInt).toNat + 1) = 6 from by decide]
  show (mF_StepMachineModel_lay (mF_StepMachineModel_lay (mF_StepMachineModel_fix (mF_StepMachineModel_fix (mF_StepMachineModel_fix (mF_StepMachineModel_lay (mF_StepMachineModel_fix (mF_StepMachineModel_fix (mF_StepMachineModel_fix (mF_StepMachineModel_fix (mF_StepMachineModel_fix (mF_StepMachineModel_fix (mF_StepMachineModel_lay (mF_StepMachineModel_lay (mF_StepMachineModel_fix (mF_StepMachineModel_fix (mF_StepMachineModel_fix (mF_StepMachineModel_lay (mF_StepMachineModel_fix (mF_StepMachineModel_fix (mF_StepMachineModel_fix row (nI 69) (nI 13) (nI 3) (nI 4)) (nI 69) (nI 0) (nI 2) (nI 2)) (nI 69) (nI 12) (nI 1) (nI 0)) (nI 69) (nI 11) (nI 7) (nI 200) (nI 4)) (nI 70) (nI 13) (nI 3) (nI 4)) (nI 70) (nI 0) (nI 2) (nI 2)) (nI 70) (nI 12) (nI 1) (nI 0)) (nI 70) (nI 11) (nI 7) (nI 100) (nI 4)) (nI 70) (nI 6) (nI 2) (nI 300) (nI 4)) (nI 71) (nI 13) (nI 3) (nI 4)) (nI 71) (nI 0) (nI 2) (nI 2)) (nI 71) (nI 12) (nI 1) (nI 1)) (nI 72) (nI 13) (nI 3) (nI 4)) (nI 72) (nI 0) (nI 2) (nI 2)) (nI 72) (nI 12) (nI 1) (nI 1)) (nI 72) (nI 11) (nI 7) (nI 200) (nI 4)) (nI 73) (nI 13) (nI 3) (nI 4)) (nI 73) (nI 0) (nI 2) (nI 2)) (nI 73) (nI 12) (nI 1) (nI 1)) (nI 73) (nI 11) (nI 7) (nI 100) (nI 4)) (nI 73) (nI 6) (nI 2) (nI 300) (nI 4)) = _
  simp (disch := decide) only [fixE, layE, oneE]
  rfl
def opsS : List (Nat × Nat × Nat × Nat × Nat) := [(48, 13, 3, 0, 0), (48, 0, 2, 0, 0), (48, 11, 2, 404, 1), (48, 7, 4, 406, 1), (48, 6, 1, 402, 1), (48, 5, 1, 403, 1), (48, 2, 3, 500, 1), (49, 13, 3, 2, 0), (49, 0, 2, 0, 0), (49, 10, 3, 403, 1), (49, 7, 3, 600, 1), (49, 6, 1, 402, 1), (49, 5, 1, 406, 1), (49, 2, 3, 500, 1), (50, 13, 3, 6, 0), (50, 0, 2, 0, 0), (50, 10, 3, 403, 1), (50, 7, 3, 600, 1), (50, 6, 1, 402, 1), (50, 5, 1, 406, 1), (50, 2, 3, 700, 1), (51, 0, 16, 1, 0), (52, 13, 3, 0, 0), (52, 0, 2, 1, 0), (52, 12, 1, 405, 1), (52, 7, 5, 100, 1), (52, 2, 5, 400, 1), (54, 13, 3, 2, 0), (54, 0, 2, 1, 0), (54, 12, 1, 405, 1), (54, 7, 5, 100, 1), (54, 2, 5, 400, 1), (56, 13, 3, 3, 0), (56, 0, 2, 1, 0), (56, 12, 1, 405, 1), (56, 7, 5, 100, 1), (56, 2, 5, 400, 1), (53, 13, 3, 1, 0), (53, 0, 2, 1, 0), (53, 12, 1, 411, 1), (53, 11, 1, 404, 1), (53, 9, 2, 408, 1), (53, 8, 1, 410, 1), (53, 7, 1, 406, 1), (53, 6, 1, 407, 1), (53, 3, 3, 401, 1), (53, 2, 1, 405, 1), (64, 13, 3, 5, 0), (64, 0, 2, 1, 0), (64, 12, 1, 411, 1), (64, 11, 1, 404, 1), (64, 9, 2, 408, 1), (64, 8, 1, 410, 1), (64, 7, 1, 406, 1), (64, 6, 1, 407, 1), (64, 3, 3, 401, 1), (64, 2, 1, 405, 1), (55, 13, 3, 3, 0), (55, 0, 2, 1, 0), (55, 12, 1, 409, 1), (55, 7, 5, 2, 0), (55, 6, 1, 404, 1), (55, 5, 1, 406, 1), (55, 3, 2, 407, 1), (55, 2, 1, 405, 1), (57, 13, 3, 4, 0), (57, 0, 2, 1, 0), (57, 10, 3, 0, 0), (57, 7, 3, 500, 1), (57, 2, 5, 400, 1), (58, 13, 3, 4, 0), (58, 0, 2, 1, 0), (58, 10, 3, 1, 0), (58, 7, 3, 500, 1), (58, 2, 5, 400, 1), (59, 13, 3, 4, 0), (59, 0, 2, 1, 0), (59, 10, 3, 2, 0), (59, 12, 1, 405, 1), (59, 7, 3, 500, 1), (59, 2, 5, 400, 1), (60, 13, 3, 4, 0), (60, 0, 2, 1, 0), (60, 10, 3, 3, 0), (60, 7, 3, 500, 1), (60, 5, 2, 0, 0), (60, 2, 3, 700, 1), (61, 13, 3, 4, 0), (61, 0, 2, 1, 0), (61, 10, 3, 3, 0), (61, 7, 3, 500, 1), (61, 5, 2, 1, 0), (61, 2, 3, 700, 1), (62, 13, 3, 4, 0), (62, 0, 2, 1, 0), (62, 10, 3, 3, 0), (62, 7, 3, 500, 1), (62, 5, 2, 2, 0), (62, 2, 3, 700, 1), (63, 13, 3, 4, 0), (63, 0, 2, 1, 0), (63, 10, 3, 3, 0), (63, 7, 3, 500, 1), (63, 5, 2, 3, 0), (63, 2, 3, 700, 1), (65, 13, 3, 6, 0), (65, 0, 2, 1, 0), (65, 12, 1, 408, 1), (65, 10, 2, 403, 1), (65, 7, 3, 600, 1), (65, 5, 2, 406, 1), (65, 3, 2, 401, 1), (65, 2, 1, 405, 1), (66, 13, 3, 7, 0), (66, 0, 2, 1, 0), (66, 12, 1, 408, 1), (66, 10, 2, 403, 1), (66, 7, 3, 600, 1), (66, 5, 2, 406, 1), (66, 3, 2, 401, 1), (66, 2, 1, 405, 1), (67, 13, 3, 0, 0), (67, 0, 2, 2, 0), (67, 7, 5, 100, 1), (67, 2, 5, 400, 1), (68, 13, 3, 2, 0), (68, 0, 2, 2, 0), (68, 12, 1, 405, 1), (68, 7, 5, 100, 1), (68, 4, 3, 402, 1), (68, 2, 2, 406, 1), (69, 13, 3, 4, 0), (69, 0, 2, 2, 0), (69, 12, 1, 0, 0), (69, 7, 5, 200, 1), (70, 13, 3, 4, 0), (70, 0, 2, 2, 0), (70, 12, 1, 0, 0), (70, 7, 5, 100, 1), (70, 2, 5, 300, 1), (71, 13, 3, 4, 0), (71, 0, 2, 2, 0), (71, 12, 1, 1, 0), (72, 13, 3, 4, 0), (72, 0, 2, 2, 0), (72, 12, 1, 1, 0), (72, 7, 5, 200, 1), (73, 13, 3, 4, 0), (73, 0, 2, 2, 0), (73, 12, 1, 1, 0), (73, 7, 5, 100, 1), (73, 2, 5, 300, 1), (74, 13, 3, 6, 0), (74, 0, 2, 2, 0), (74, 9, 4, 402, 1), (74, 7, 2, 406, 1), (74, 2, 5, 300, 1)]
set_option maxRecDepth 100000 in
theorem ls_is (row : Nat → Int32) : mF_StepMachineModel_layShort row = aps opsS row := by
  show (mF_StepMachineModel_lay (mF_StepMachineModel_lay (mF_StepMachineModel_lay (mF_StepMachineModel_fix (mF_StepMachineModel_fix (mF_StepMachineModel_layShort_L676 (((74 : Int32).toInt - (69 : Int32).toInt).toNat + 1) (69 : Int32) (mF_StepMachineModel_lay (mF_StepMachineModel_lay (mF_StepMachineModel_lay (mF_StepMachineModel_one (mF_StepMachineModel_fix (mF_StepMachineModel_fix (mF_StepMachineModel_lay (mF_StepMachineModel_lay (mF_StepMachineModel_fix (mF_StepMachineModel_fix (mF_StepMachineModel_layShort_L486 (((67 : Int32).toInt - (65 : Int32).toInt).toNat + 1) (65 : Int32) (mF_StepMachineModel_layShort_L420 (((64 : Int32).toInt - (60 : Int32).toInt).toNat + 1) (60 : Int32) (mF_StepMachineModel_layShort_L347 (((60 : Int32).toInt - (57 : Int32).toInt).toNat + 1) (57 : Int32) (mF_StepMachineModel_one (mF_StepMachineModel_lay (mF_StepMachineModel_one (mF_StepMachineModel_one (mF_StepMachineModel_fix (mF_StepMachineModel_one (mF_StepMachineModel_fix (mF_StepMachineModel_fix (mF_StepMachineModel_one (mF_StepMachineModel_lay (mF_StepMachineModel_one (mF_StepMachineModel_one (mF_StepMachineModel_one (mF_StepMachineModel_lay (mF_StepMachineModel_one (mF_StepMachineModel_one (mF_StepMachineModel_fix (mF_StepMachineModel_fix (mF_StepMachineModel_one (mF_StepMachineModel_lay (mF_StepMachineModel_one (mF_StepMachineModel_one (mF_StepMachineModel_one (mF_StepMachineModel_lay (mF_StepMachineModel_one (mF_StepMachineModel_one (mF_StepMachineModel_fix (mF_StepMachineModel_fix (mF_StepMachineModel_layShort_L177 (((57 : Int32).toInt - (52 : Int32).toInt).toNat + 1) (52 : Int32) (mF_StepMachineModel_fix (mF_StepMachineModel_layShort_L69 (((51 : Int32).toInt - (49 : Int32).toInt).toNat + 1) (49 : Int32) (mF_StepMachineModel_lay (mF_StepMachineModel_one (mF_StepMachineModel_one (mF_StepMachineModel_lay (mF_StepMachineModel_lay (mF_StepMachineModel_fix (mF_StepMachineModel_fix row (nI 48) (nI 13) (nI 3) (nI 0)) (nI 48) (nI 0) (nI 2) (nI 0)) (nI 48) (nI 12) (nI 11) (nI 400) (nI 5)) (nI 48) (nI 10) (nI 7) (nI 400) (nI 9)) (nI 48) (nI 6) (nI 2)) (nI 48) (nI 5) (nI 3)) (nI 48) (nI 4) (nI 2) (nI 500) (nI 2))).2 (nI 51) (nI 0) (nI 16) (nI 1))).2 (nI 53) (nI 13) (nI 3) (nI 1)) (nI 53) (nI 0) (nI 2) (nI 1)) (nI 53) (nI 12) (nI 11)) (nI 53) (nI 11) (nI 4)) (nI 53) (nI 10) (nI 9) (nI 400) (nI 9)) (nI 53) (nI 8) (nI 10)) (nI 53) (nI 7) (nI 6)) (nI 53) (nI 6) (nI 7)) (nI 53) (nI 5) (nI 3) (nI 400) (nI 3)) (nI 53) (nI 2) (nI 5)) (nI 64) (nI 13) (nI 3) (nI 5)) (nI 64) (nI 0) (nI 2) (nI 1)) (nI 64) (nI 12) (nI 11)) (nI 64) (nI 11) (nI 4)) (nI 64) (nI 10) (nI 9) (nI 400) (nI 9)) (nI 64) (nI 8) (nI 10)) (nI 64) (nI 7) (nI 6)) (nI 64) (nI 6) (nI 7)) (nI 64) (nI 5) (nI 3) (nI 400) (nI 3)) (nI 64) (nI 2) (nI 5)) (nI 55) (nI 13) (nI 3) (nI 3)) (nI 55) (nI 0) (nI 2) (nI 1)) (nI 55) (nI 12) (nI 9)) (nI 55) (nI 7) (nI 5) (nI 2)) (nI 55) (nI 6) (nI 4)) (nI 55) (nI 5) (nI 6)) (nI 55) (nI 4) (nI 3) (nI 400) (nI 8)) (nI 55) (nI 2) (nI 5))).2).2).2 (nI 67) (nI 13) (nI 3) (nI 0)) (nI 67) (nI 0) (nI 2) (nI 2)) (nI 67) (nI 11) (nI 7) (nI 100) (nI 4)) (nI 67) (nI 6) (nI 2) (nI 400) (nI 4)) (nI 68) (nI 13) (nI 3) (nI 2)) (nI 68) (nI 0) (nI 2) (nI 2)) (nI 68) (nI 12) (nI 5)) (nI 68) (nI 11) (nI 7) (nI 100) (nI 4)) (nI 68) (nI 6) (nI 4) (nI 400) (nI 4)) (nI 68) (nI 3) (nI 2) (nI 400) (nI 7))).2 (nI 74) (nI 13) (nI 3) (nI 6)) (nI 74) (nI 0) (nI 2) (nI 2)) (nI 74) (nI 12) (nI 9) (nI 400) (nI 5)) (nI 74) (nI 8) (nI 7) (nI 400) (nI 7)) (nI 74) (nI 6) (nI 2) (nI 300) (nI 4)) = _
  rw [lp_L69, lp_L177, lp_L347, lp_L420, lp_L486, lp_L676]
  simp (disch := decide) only [fixE, layE, oneE]
  rfl
def opsG : List (List (Nat × Nat × Nat × Nat × Nat)) := [[(48, 13, 3, 0, 0), (48, 0, 2, 0, 0), (48, 11, 2, 404, 1), (48, 7, 4, 406, 1), (48, 6, 1, 402, 1), (48, 5, 1, 403, 1), (48, 2, 3, 500, 1)],
  [(49, 13, 3, 2, 0), (49, 0, 2, 0, 0), (49, 10, 3, 403, 1), (49, 7, 3, 600, 1), (49, 6, 1, 402, 1), (49, 5, 1, 406, 1), (49, 2, 3, 500, 1)],
  [(50, 13, 3, 6, 0), (50, 0, 2, 0, 0), (50, 10, 3, 403, 1), (50, 7, 3, 600, 1), (50, 6, 1, 402, 1), (50, 5, 1, 406, 1), (50, 2, 3, 700, 1)],
  [(51, 0, 16, 1, 0)],
  [(52, 13, 3, 0, 0), (52, 0, 2, 1, 0), (52, 12, 1, 405, 1), (52, 7, 5, 100, 1), (52, 2, 5, 400, 1)],
  [(53, 13, 3, 1, 0), (53, 0, 2, 1, 0), (53, 12, 1, 411, 1), (53, 11, 1, 404, 1), (53, 9, 2, 408, 1), (53, 8, 1, 410, 1), (53, 7, 1, 406, 1), (53, 6, 1, 407, 1), (53, 3, 3, 401, 1), (53, 2, 1, 405, 1)],
  [(54, 13, 3, 2, 0), (54, 0, 2, 1, 0), (54, 12, 1, 405, 1), (54, 7, 5, 100, 1), (54, 2, 5, 400, 1)],
  [(55, 13, 3, 3, 0), (55, 0, 2, 1, 0), (55, 12, 1, 409, 1), (55, 7, 5, 2, 0), (55, 6, 1, 404, 1), (55, 5, 1, 406, 1), (55, 3, 2, 407, 1), (55, 2, 1, 405, 1)],
  [(56, 13, 3, 3, 0), (56, 0, 2, 1, 0), (56, 12, 1, 405, 1), (56, 7, 5, 100, 1), (56, 2, 5, 400, 1)],
  [(57, 13, 3, 4, 0), (57, 0, 2, 1, 0), (57, 10, 3, 0, 0), (57, 7, 3, 500, 1), (57, 2, 5, 400, 1)],
  [(58, 13, 3, 4, 0), (58, 0, 2, 1, 0), (58, 10, 3, 1, 0), (58, 7, 3, 500, 1), (58, 2, 5, 400, 1)],
  [(59, 13, 3, 4, 0), (59, 0, 2, 1, 0), (59, 10, 3, 2, 0), (59, 12, 1, 405, 1), (59, 7, 3, 500, 1), (59, 2, 5, 400, 1)],
  [(60, 13, 3, 4, 0), (60, 0, 2, 1, 0), (60, 10, 3, 3, 0), (60, 7, 3, 500, 1), (60, 5, 2, 0, 0), (60, 2, 3, 700, 1)],
  [(61, 13, 3, 4, 0), (61, 0, 2, 1, 0), (61, 10, 3, 3, 0), (61, 7, 3, 500, 1), (61, 5, 2, 1, 0), (61, 2, 3, 700, 1)],
  [(62, 13, 3, 4, 0), (62, 0, 2, 1, 0), (62, 10, 3, 3, 0), (62, 7, 3, 500, 1), (62, 5, 2, 2, 0), (62, 2, 3, 700, 1)],
  [(63, 13, 3, 4, 0), (63, 0, 2, 1, 0), (63, 10, 3, 3, 0), (63, 7, 3, 500, 1), (63, 5, 2, 3, 0), (63, 2, 3, 700, 1)],
  [(64, 13, 3, 5, 0), (64, 0, 2, 1, 0), (64, 12, 1, 411, 1), (64, 11, 1, 404, 1), (64, 9, 2, 408, 1), (64, 8, 1, 410, 1), (64, 7, 1, 406, 1), (64, 6, 1, 407, 1), (64, 3, 3, 401, 1), (64, 2, 1, 405, 1)],
  [(65, 13, 3, 6, 0), (65, 0, 2, 1, 0), (65, 12, 1, 408, 1), (65, 10, 2, 403, 1), (65, 7, 3, 600, 1), (65, 5, 2, 406, 1), (65, 3, 2, 401, 1), (65, 2, 1, 405, 1)],
  [(66, 13, 3, 7, 0), (66, 0, 2, 1, 0), (66, 12, 1, 408, 1), (66, 10, 2, 403, 1), (66, 7, 3, 600, 1), (66, 5, 2, 406, 1), (66, 3, 2, 401, 1), (66, 2, 1, 405, 1)],
  [(67, 13, 3, 0, 0), (67, 0, 2, 2, 0), (67, 7, 5, 100, 1), (67, 2, 5, 400, 1)],
  [(68, 13, 3, 2, 0), (68, 0, 2, 2, 0), (68, 12, 1, 405, 1), (68, 7, 5, 100, 1), (68, 4, 3, 402, 1), (68, 2, 2, 406, 1)],
  [(69, 13, 3, 4, 0), (69, 0, 2, 2, 0), (69, 12, 1, 0, 0), (69, 7, 5, 200, 1)],
  [(70, 13, 3, 4, 0), (70, 0, 2, 2, 0), (70, 12, 1, 0, 0), (70, 7, 5, 100, 1), (70, 2, 5, 300, 1)],
  [(71, 13, 3, 4, 0), (71, 0, 2, 2, 0), (71, 12, 1, 1, 0)],
  [(72, 13, 3, 4, 0), (72, 0, 2, 2, 0), (72, 12, 1, 1, 0), (72, 7, 5, 200, 1)],
  [(73, 13, 3, 4, 0), (73, 0, 2, 2, 0), (73, 12, 1, 1, 0), (73, 7, 5, 100, 1), (73, 2, 5, 300, 1)],
  [(74, 13, 3, 6, 0), (74, 0, 2, 2, 0), (74, 9, 4, 402, 1), (74, 7, 2, 406, 1), (74, 2, 5, 300, 1)]]
def rowI : Nat → (Nat → Int32)
  | 0 => fun _ => 0
  | i + 1 => mF_StepMachineModel_layLong (rowI i) (nI i)
def rowC : Nat → Int32 := mF_StepMachineModel_layShort (rowI 75)
def rowA : Nat → (Nat → Int32)
  | 0 => fun _ => 0
  | i + 1 => aps (opsL.getD i []) (rowA i)
theorem ri_0 : rowI 0 = rowA 0 := rfl
theorem ri_1 : rowI 1 = rowA 1 := by
  rw [rowI, ri_0]
  exact ll_0 _
theorem ri_2 : rowI 2 = rowA 2 := by
  rw [rowI, ri_1]
  exact ll_1 _
theorem ri_3 : rowI 3 = rowA 3 := by
  rw [rowI, ri_2]
  exact ll_2 _
theorem ri_4 : rowI 4 = rowA 4 := by
  rw [rowI, ri_3]
  exact ll_3 _
theorem ri_5 : rowI 5 = rowA 5 := by
  rw [rowI, ri_4]
  exact ll_4 _
theorem ri_6 : rowI 6 = rowA 6 := by
  rw [rowI, ri_5]
  exact ll_5 _
theorem ri_7 : rowI 7 = rowA 7 := by
  rw [rowI, ri_6]
  exact ll_6 _
theorem ri_8 : rowI 8 = rowA 8 := by
  rw [rowI, ri_7]
  exact ll_7 _
theorem ri_9 : rowI 9 = rowA 9 := by
  rw [rowI, ri_8]
  exact ll_8 _
theorem ri_10 : rowI 10 = rowA 10 := by
  rw [rowI, ri_9]
  exact ll_9 _
theorem ri_11 : rowI 11 = rowA 11 := by
  rw [rowI, ri_10]
  exact ll_10 _
theorem ri_12 : rowI 12 = rowA 12 := by
  rw [rowI, ri_11]
  exact ll_11 _
theorem ri_13 : rowI 13 = rowA 13 := by
  rw [rowI, ri_12]
  exact ll_12 _
theorem ri_14 : rowI 14 = rowA 14 := by
  rw [rowI, ri_13]
  exact ll_13 _
theorem ri_15 : rowI 15 = rowA 15 := by
  rw [rowI, ri_14]
  exact ll_14 _
theorem ri_16 : rowI 16 = rowA 16 := by
  rw [rowI, ri_15]
  exact ll_15 _
theorem ri_17 : rowI 17 = rowA 17 := by
  rw [rowI, ri_16]
  exact ll_16 _
theorem ri_18 : rowI 18 = rowA 18 := by
  rw [rowI, ri_17]
  exact ll_17 _
theorem ri_19 : rowI 19 = rowA 19 := by
  rw [rowI, ri_18]
  exact ll_18 _
theorem ri_20 : rowI 20 = rowA 20 := by
  rw [rowI, ri_19]
  exact ll_19 _
theorem ri_21 : rowI 21 = rowA 21 := by
  rw [rowI, ri_20]
  exact ll_20 _
theorem ri_22 : rowI 22 = rowA 22 := by
  rw [rowI, ri_21]
  exact ll_21 _
theorem ri_23 : rowI 23 = rowA 23 := by
  rw [rowI, ri_22]
  exact ll_22 _
theorem ri_24 : rowI 24 = rowA 24 := by
  rw [rowI, ri_23]
  exact ll_23 _
theorem ri_25 : rowI 25 = rowA 25 := by
  rw [rowI, ri_24]
  exact ll_24 _
theorem ri_26 : rowI 26 = rowA 26 := by
  rw [rowI, ri_25]
  exact ll_25 _
theorem ri_27 : rowI 27 = rowA 27 := by
  rw [rowI, ri_26]
  exact ll_26 _
theorem ri_28 : rowI 28 = rowA 28 := by
  rw [rowI, ri_27]
  exact ll_27 _
theorem ri_29 : rowI 29 = rowA 29 := by
  rw [rowI, ri_28]
  exact ll_28 _
theorem ri_30 : rowI 30 = rowA 30 := by
  rw [rowI, ri_29]
  exact ll_29 _
theorem ri_31 : rowI 31 = rowA 31 := by
  rw [rowI, ri_30]
  exact ll_30 _
theorem ri_32 : rowI 32 = rowA 32 := by
  rw [rowI, ri_31]
  exact ll_31 _
theorem ri_33 : rowI 33 = rowA 33 := by
  rw [rowI, ri_32]
  exact ll_32 _
theorem ri_34 : rowI 34 = rowA 34 := by
  rw [rowI, ri_33]
  exact ll_33 _
theorem ri_35 : rowI 35 = rowA 35 := by
  rw [rowI, ri_34]
  exact ll_34 _
theorem ri_36 : rowI 36 = rowA 36 := by
  rw [rowI, ri_35]
  exact ll_35 _
theorem ri_37 : rowI 37 = rowA 37 := by
  rw [rowI, ri_36]
  exact ll_36 _
theorem ri_38 : rowI 38 = rowA 38 := by
  rw [rowI, ri_37]
  exact ll_37 _
theorem ri_39 : rowI 39 = rowA 39 := by
  rw [rowI, ri_38]
  exact ll_38 _
theorem ri_40 : rowI 40 = rowA 40 := by
  rw [rowI, ri_39]
  exact ll_39 _
theorem ri_41 : rowI 41 = rowA 41 := by
  rw [rowI, ri_40]
  exact ll_40 _
theorem ri_42 : rowI 42 = rowA 42 := by
  rw [rowI, ri_41]
  exact ll_41 _
theorem ri_43 : rowI 43 = rowA 43 := by
  rw [rowI, ri_42]
  exact ll_42 _
theorem ri_44 : rowI 44 = rowA 44 := by
  rw [rowI, ri_43]
  exact ll_43 _
theorem ri_45 : rowI 45 = rowA 45 := by
  rw [rowI, ri_44]
  exact ll_44 _
theorem ri_46 : rowI 46 = rowA 46 := by
  rw [rowI, ri_45]
  exact ll_45 _
theorem ri_47 : rowI 47 = rowA 47 := by
  rw [rowI, ri_46]
  exact ll_46 _
theorem ri_48 : rowI 48 = rowA 48 := by
  rw [rowI, ri_47]
  exact ll_47 _
theorem ri_stay {i : Nat} (h : 48 ≤ i) (h2 : i < 75) : rowI (i + 1) = rowI i := by
  rw [rowI, mF_StepMachineModel_layLong, if_neg (fun q => by have := ti_lt q; rw [nI_toInt (by omega), e_48] at this; omega)]
theorem ri_75 : rowI 75 = rowA 48 := by
  rw [ri_stay (i := 74) (by decide) (by decide), ri_stay (i := 73) (by decide) (by decide), ri_stay (i := 72) (by decide) (by decide), ri_stay (i := 71) (by decide) (by decide), ri_stay (i := 70) (by decide) (by decide), ri_stay (i := 69) (by decide) (by decide), ri_stay (i := 68) (by decide) (by decide), ri_stay (i := 67) (by decide) (by decide), ri_stay (i := 66) (by decide) (by decide), ri_stay (i := 65) (by decide) (by decide), ri_stay (i := 64) (by decide) (by decide), ri_stay (i := 63) (by decide) (by decide), ri_stay (i := 62) (by decide) (by decide), ri_stay (i := 61) (by decide) (by decide), ri_stay (i := 60) (by decide) (by decide), ri_stay (i := 59) (by decide) (by decide), ri_stay (i := 58) (by decide) (by decide), ri_stay (i := 57) (by decide) (by decide), ri_stay (i := 56) (by decide) (by decide), ri_stay (i := 55) (by decide) (by decide), ri_stay (i := 54) (by decide) (by decide), ri_stay (i := 53) (by decide) (by decide), ri_stay (i := 52) (by decide) (by decide), ri_stay (i := 51) (by decide) (by decide), ri_stay (i := 50) (by decide) (by decide), ri_stay (i := 49) (by decide) (by decide), ri_stay (i := 48) (by decide) (by decide), ri_48]
theorem ap_cg {o : Nat × Nat × Nat × Nat × Nat} {r r' : Nat → Int32} {j : Nat} (h : r j = r' j) : ap o r j = ap o r' j := by
  unfold ap
  rw [h]
theorem ap_off {o : Nat × Nat × Nat × Nat × Nat} {r : Nat → Int32} {j : Nat} (h1 : o.1 ≠ j / 32) (h2 : o.2.1 + o.2.2.1 ≤ 32) : ap o r j = r j := by
  unfold ap
  rw [if_neg (by omega)]
theorem aps_cg : ∀ (l : List (Nat × Nat × Nat × Nat × Nat)) {r r' : Nat → Int32} {j : Nat}, r j = r' j → aps l r j = aps l r' j := by
  intro l
  induction l with
  | nil => intro r r' j h; exact h
  | cons o l ih => intro r r' j h; rw [aps_cons, aps_cons]; exact ih (ap_cg h)
theorem aps_off : ∀ (l : List (Nat × Nat × Nat × Nat × Nat)) {r : Nat → Int32} {j : Nat}, (∀ o ∈ l, o.1 ≠ j / 32 ∧ o.2.1 + o.2.2.1 ≤ 32) → aps l r j = r j := by
  intro l
  induction l with
  | nil => intro r j _; rfl
  | cons o l ih =>
    intro r j h
    have ho := h o List.mem_cons_self
    rw [aps_cons, ih (fun x hx => h x (List.mem_cons_of_mem _ hx)), ap_off ho.1 ho.2]
theorem aps_flt : ∀ (l : List (Nat × Nat × Nat × Nat × Nat)) {r : Nat → Int32} {j : Nat}, (∀ o ∈ l, o.2.1 + o.2.2.1 ≤ 32) → aps l r j = aps (l.filter (fun o => o.1 == j / 32)) r j := by
  intro l
  induction l with
  | nil => intro r j _; rfl
  | cons o l ih =>
    intro r j h
    have ho := h o List.mem_cons_self
    have hl := fun x hx => h x (List.mem_cons_of_mem _ hx)
    by_cases e : o.1 = j / 32
    · rw [List.filter_cons_of_pos (by rw [e]; exact beq_self_eq_true _), aps_cons, aps_cons]
      exact ih hl
    · rw [List.filter_cons_of_neg (by rw [beq_iff_eq]; exact e), aps_cons, ih hl]
      exact aps_cg _ (ap_off e ho)
theorem opsL_ok : ∀ i, i < 48 → ∀ o ∈ opsL.getD i [], o.1 = i ∧ o.2.1 + o.2.2.1 ≤ 32 := by decide +kernel
theorem opsS_ok : ∀ o ∈ opsS, 48 ≤ o.1 ∧ o.2.1 + o.2.2.1 ≤ 32 := by decide +kernel
set_option maxRecDepth 100000 in
theorem ob_48 : opsS.filter (fun o => o.1 == 48) = opsG.getD 0 [] := rfl
set_option maxRecDepth 100000 in
theorem ob_49 : opsS.filter (fun o => o.1 == 49) = opsG.getD 1 [] := rfl
set_option maxRecDepth 100000 in
theorem ob_50 : opsS.filter (fun o => o.1 == 50) = opsG.getD 2 [] := rfl
set_option maxRecDepth 100000 in
theorem ob_51 : opsS.filter (fun o => o.1 == 51) = opsG.getD 3 [] := rfl
set_option maxRecDepth 100000 in
theorem ob_52 : opsS.filter (fun o => o.1 == 52) = opsG.getD 4 [] := rfl
set_option maxRecDepth 100000 in
theorem ob_53 : opsS.filter (fun o => o.1 == 53) = opsG.getD 5 [] := rfl
set_option maxRecDepth 100000 in
theorem ob_54 : opsS.filter (fun o => o.1 == 54) = opsG.getD 6 [] := rfl
set_option maxRecDepth 100000 in
theorem ob_55 : opsS.filter (fun o => o.1 == 55) = opsG.getD 7 [] := rfl
set_option maxRecDepth 100000 in
theorem ob_56 : opsS.filter (fun o => o.1 == 56) = opsG.getD 8 [] := rfl
set_option maxRecDepth 100000 in
theorem ob_57 : opsS.filter (fun o => o.1 == 57) = opsG.getD 9 [] := rfl
set_option maxRecDepth 100000 in
theorem ob_58 : opsS.filter (fun o => o.1 == 58) = opsG.getD 10 [] := rfl
set_option maxRecDepth 100000 in
theorem ob_59 : opsS.filter (fun o => o.1 == 59) = opsG.getD 11 [] := rfl
set_option maxRecDepth 100000 in
theorem ob_60 : opsS.filter (fun o => o.1 == 60) = opsG.getD 12 [] := rfl
set_option maxRecDepth 100000 in
theorem ob_61 : opsS.filter (fun o => o.1 == 61) = opsG.getD 13 [] := rfl
set_option maxRecDepth 100000 in
theorem ob_62 : opsS.filter (fun o => o.1 == 62) = opsG.getD 14 [] := rfl
set_option maxRecDepth 100000 in
theorem ob_63 : opsS.filter (fun o => o.1 == 63) = opsG.getD 15 [] := rfl
set_option maxRecDepth 100000 in
theorem ob_64 : opsS.filter (fun o => o.1 == 64) = opsG.getD 16 [] := rfl
set_option maxRecDepth 100000 in
theorem ob_65 : opsS.filter (fun o => o.1 == 65) = opsG.getD 17 [] := rfl
set_option maxRecDepth 100000 in
theorem ob_66 : opsS.filter (fun o => o.1 == 66) = opsG.getD 18 [] := rfl
set_option maxRecDepth 100000 in
theorem ob_67 : opsS.filter (fun o => o.1 == 67) = opsG.getD 19 [] := rfl
set_option maxRecDepth 100000 in
theorem ob_68 : opsS.filter (fun o => o.1 == 68) = opsG.getD 20 [] := rfl
set_option maxRecDepth 100000 in
theorem ob_69 : opsS.filter (fun o => o.1 == 69) = opsG.getD 21 [] := rfl
set_option maxRecDepth 100000 in
theorem ob_70 : opsS.filter (fun o => o.1 == 70) = opsG.getD 22 [] := rfl
set_option maxRecDepth 100000 in
theorem ob_71 : opsS.filter (fun o => o.1 == 71) = opsG.getD 23 [] := rfl
set_option maxRecDepth 100000 in
theorem ob_72 : opsS.filter (fun o => o.1 == 72) = opsG.getD 24 [] := rfl
set_option maxRecDepth 100000 in
theorem ob_73 : opsS.filter (fun o => o.1 == 73) = opsG.getD 25 [] := rfl
set_option maxRecDepth 100000 in
theorem ob_74 : opsS.filter (fun o => o.1 == 74) = opsG.getD 26 [] := rfl
theorem opsS_by (k : Nat) (h : k < 75) (h2 : 48 ≤ k) : opsS.filter (fun o => o.1 == k) = opsG.getD (k - 48) [] := by
  rcases (show k = 48 ∨ k = 49 ∨ k = 50 ∨ k = 51 ∨ k = 52 ∨ k = 53 ∨ k = 54 ∨ k = 55 ∨ k = 56 ∨ k = 57 ∨ k = 58 ∨ k = 59 ∨ k = 60 ∨ k = 61 ∨ k = 62 ∨ k = 63 ∨ k = 64 ∨ k = 65 ∨ k = 66 ∨ k = 67 ∨ k = 68 ∨ k = 69 ∨ k = 70 ∨ k = 71 ∨ k = 72 ∨ k = 73 ∨ k = 74 by omega) with rfl | rfl | rfl | rfl | rfl | rfl | rfl | rfl | rfl | rfl | rfl | rfl | rfl | rfl | rfl | rfl | rfl | rfl | rfl | rfl | rfl | rfl | rfl | rfl | rfl | rfl | rfl
  · exact ob_48
  · exact ob_49
  · exact ob_50
  · exact ob_51
  · exact ob_52
  · exact ob_53
  · exact ob_54
  · exact ob_55
  · exact ob_56
  · exact ob_57
  · exact ob_58
  · exact ob_59
  · exact ob_60
  · exact ob_61
  · exact ob_62
  · exact ob_63
  · exact ob_64
  · exact ob_65
  · exact ob_66
  · exact ob_67
  · exact ob_68
  · exact ob_69
  · exact ob_70
  · exact ob_71
  · exact ob_72
  · exact ob_73
  · exact ob_74
theorem rowA_is {j : Nat} : ∀ i, i ≤ 48 → rowA i j = if j / 32 < i then aps (opsL.getD (j / 32) []) (fun _ => 0) j else 0 := by
  intro i
  induction i with
  | zero => intro _; rw [if_neg (by omega)]; rfl
  | succ i ih =>
    intro hi
    rw [rowA]
    by_cases e : i = j / 32
    · rw [if_pos (by omega), ← e]
      exact aps_cg _ (by rw [ih (by omega), if_neg (by omega)])
    · rw [aps_off _ (fun o ho => ⟨by rw [(opsL_ok i (by omega) o ho).1]; exact e, (opsL_ok i (by omega) o ho).2⟩), ih (by omega)]
      by_cases f : j / 32 < i
      · rw [if_pos f, if_pos (by omega)]
      · rw [if_neg f, if_neg (by omega)]
theorem chk_L : ∀ k, k < 48 → ∀ b, b < 32 → aps (opsL.getD k []) (fun _ => 0) (32 * k + b) = rowT (32 * k + b) := by decide +kernel
theorem chk_S : ∀ k, k < 75 → 48 ≤ k → ∀ b, b < 32 → aps (opsG.getD (k - 48) []) (fun _ => 0) (32 * k + b) = rowT (32 * k + b) := by decide +kernel
theorem row_chk (j : Nat) (hj : j < 2400) : aps opsS (rowA 48) j = rowT j := by
  have ej : 32 * (j / 32) + j % 32 = j := Nat.div_add_mod j 32
  have hb : j % 32 < 32 := Nat.mod_lt _ (by decide)
  by_cases h : j / 32 < 48
  · rw [aps_off _ (fun o ho => ⟨by have := (opsS_ok o ho).1; omega, (opsS_ok o ho).2⟩), rowA_is 48 (Nat.le_refl _), if_pos h]
    have := chk_L (j / 32) h (j % 32) hb
    rw [ej] at this
    exact this
  · rw [aps_flt _ (fun o ho => (opsS_ok o ho).2), opsS_by (j / 32) (by omega) (by omega), aps_cg (r' := fun _ => 0) _ (by rw [rowA_is 48 (Nat.le_refl _), if_neg h])]
    have := chk_S (j / 32) (by omega) (by omega) (j % 32) hb
    rw [ej] at this
    exact this
theorem row_made : ∀ j : Nat, j < 2400 → rowC j = rowT j := fun j hj => by
  rw [rowC, ls_is, ri_75]
  exact row_chk j hj
