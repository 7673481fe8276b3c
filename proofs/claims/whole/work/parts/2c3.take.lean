def rowNL : List (List Nat) := [[1, 1, 1, 0, 1, 1, 0, 100, 101, 102, 103, 104, 400, 401, 402, 403, 404, 405, 406, 407, 408, 409, 410, 411, 412, 413, 414, 415, 416, 417, 418, 419],
  [1, 1, 1, 0, 1, 0, 0, 100, 101, 102, 103, 104, 400, 401, 402, 403, 404, 405, 406, 407, 408, 409, 410, 411, 412, 413, 414, 415, 416, 417, 418, 419],
  [1, 1, 1, 1, 0, 1, 1, 100, 101, 102, 103, 104, 412, 413, 414, 415, 416, 417, 418, 419, 411, 401, 402, 403, 404, 405, 406, 407, 408, 409, 410, 420],
  [1, 1, 1, 0, 0, 1, 1, 100, 101, 102, 103, 104, 0, 0, 0, 200, 201, 202, 203, 204, 400, 401, 402, 403, 404, 405, 406, 407, 408, 409, 410, 411],
  [1, 1, 0, 0, 0, 1, 1, 411, 401, 402, 403, 404, 0, 0, 0, 200, 201, 202, 203, 204, 300, 301, 302, 303, 304, 405, 406, 407, 408, 409, 410, 412],
  [1, 1, 0, 0, 0, 1, 1, 411, 401, 402, 403, 404, 1, 0, 0, 200, 201, 202, 203, 204, 300, 301, 302, 303, 304, 405, 406, 407, 408, 409, 410, 412],
  [1, 1, 0, 0, 0, 1, 1, 411, 401, 402, 403, 404, 0, 0, 1, 200, 201, 202, 203, 204, 300, 301, 302, 303, 304, 405, 406, 407, 408, 409, 410, 412],
  [1, 1, 0, 0, 0, 1, 1, 411, 401, 402, 403, 404, 1, 0, 1, 200, 201, 202, 203, 204, 300, 301, 302, 303, 304, 405, 406, 407, 408, 409, 410, 412],
  [1, 1, 0, 0, 0, 1, 1, 411, 401, 402, 403, 404, 0, 1, 1, 200, 201, 202, 203, 204, 300, 301, 302, 303, 304, 405, 406, 407, 408, 409, 410, 412],
  [1, 1, 0, 0, 0, 1, 1, 411, 401, 402, 403, 404, 1, 1, 1, 200, 201, 202, 203, 204, 300, 301, 302, 303, 304, 405, 406, 407, 408, 409, 410, 412],
  [1, 1, 0, 0, 0, 0, 0, 100, 101, 102, 103, 104, 0, 0, 0, 200, 201, 202, 203, 204, 400, 401, 402, 403, 404, 405, 406, 407, 408, 409, 410, 411],
  [1, 1, 0, 0, 0, 0, 0, 100, 101, 102, 103, 104, 1, 0, 0, 200, 201, 202, 203, 204, 400, 401, 402, 403, 404, 405, 406, 407, 408, 409, 410, 411],
  [1, 1, 0, 0, 0, 0, 0, 100, 101, 102, 103, 104, 0, 1, 0, 200, 201, 202, 203, 204, 400, 401, 402, 403, 404, 405, 406, 407, 408, 409, 410, 411],
  [1, 1, 0, 0, 0, 0, 0, 100, 101, 102, 103, 104, 0, 0, 1, 200, 201, 202, 203, 204, 400, 401, 402, 403, 404, 405, 406, 407, 408, 409, 410, 411],
  [1, 1, 0, 0, 0, 0, 0, 100, 101, 102, 103, 104, 1, 0, 1, 200, 201, 202, 203, 204, 400, 401, 402, 403, 404, 405, 406, 407, 408, 409, 410, 411],
  [1, 1, 0, 0, 0, 1, 0, 400, 401, 402, 403, 404, 0, 0, 0, 200, 201, 202, 203, 204, 300, 301, 302, 303, 304, 405, 406, 407, 408, 409, 410, 411],
  [1, 1, 0, 0, 0, 1, 0, 400, 401, 402, 403, 404, 1, 0, 0, 200, 201, 202, 203, 204, 300, 301, 302, 303, 304, 405, 406, 407, 408, 409, 410, 411],
  [1, 1, 0, 0, 0, 1, 0, 400, 401, 402, 403, 404, 0, 1, 0, 200, 201, 202, 203, 204, 300, 301, 302, 303, 304, 405, 406, 407, 408, 409, 410, 411],
  [1, 1, 0, 0, 1, 0, 0, 100, 101, 102, 103, 104, 0, 0, 0, 200, 201, 202, 203, 204, 400, 401, 402, 403, 404, 405, 406, 407, 408, 409, 410, 411],
  [1, 1, 0, 0, 1, 0, 0, 100, 101, 102, 103, 104, 0, 1, 0, 200, 201, 202, 203, 204, 400, 401, 402, 403, 404, 405, 406, 407, 408, 409, 410, 411],
  [1, 1, 0, 0, 1, 0, 0, 100, 101, 102, 103, 104, 1, 1, 0, 200, 201, 202, 203, 204, 400, 401, 402, 403, 404, 405, 406, 407, 408, 409, 410, 411],
  [1, 1, 0, 0, 1, 0, 0, 100, 101, 102, 103, 104, 0, 0, 1, 200, 201, 202, 203, 204, 400, 401, 402, 403, 404, 405, 406, 407, 408, 409, 410, 411],
  [1, 1, 0, 0, 1, 0, 0, 100, 101, 102, 103, 104, 0, 1, 1, 200, 201, 202, 203, 204, 400, 401, 402, 403, 404, 405, 406, 407, 408, 409, 410, 411],
  [1, 1, 0, 0, 1, 0, 0, 100, 101, 102, 103, 104, 1, 1, 1, 200, 201, 202, 203, 204, 400, 401, 402, 403, 404, 405, 406, 407, 408, 409, 410, 411],
  [1, 1, 0, 0, 1, 0, 0, 100, 101, 102, 103, 104, 1, 0, 0, 200, 201, 202, 203, 204, 400, 401, 402, 403, 404, 0, 0, 0, 0, 0, 0, 0],
  [1, 1, 0, 0, 1, 0, 0, 100, 101, 102, 103, 104, 1, 0, 1, 200, 201, 202, 203, 204, 400, 401, 402, 403, 404, 0, 0, 0, 0, 0, 0, 0],
  [1, 1, 0, 0, 1, 0, 0, 100, 101, 102, 103, 104, 1, 0, 1, 200, 201, 202, 203, 204, 400, 401, 402, 403, 404, 0, 0, 0, 0, 0, 1, 0],
  [1, 1, 0, 0, 1, 1, 0, 100, 101, 102, 103, 104, 0, 0, 0, 200, 201, 202, 203, 204, 300, 301, 302, 303, 304, 0, 0, 0, 0, 0, 0, 0],
  [1, 1, 0, 0, 1, 1, 0, 100, 101, 102, 103, 104, 0, 0, 0, 200, 201, 202, 203, 204, 300, 301, 302, 303, 304, 0, 0, 0, 0, 0, 1, 0],
  [1, 1, 0, 0, 1, 1, 0, 100, 101, 102, 103, 104, 1, 0, 0, 200, 201, 202, 203, 204, 300, 301, 302, 303, 304, 0, 0, 0, 0, 0, 0, 0],
  [1, 1, 0, 0, 1, 1, 0, 100, 101, 102, 103, 104, 0, 1, 0, 200, 201, 202, 203, 204, 300, 301, 302, 303, 304, 0, 0, 0, 0, 0, 0, 0],
  [1, 1, 0, 0, 1, 1, 0, 100, 101, 102, 103, 104, 1, 1, 0, 200, 201, 202, 203, 204, 300, 301, 302, 303, 304, 0, 0, 0, 0, 0, 0, 0],
  [1, 1, 0, 0, 1, 1, 0, 100, 101, 102, 103, 104, 0, 0, 1, 200, 201, 202, 203, 204, 300, 301, 302, 303, 304, 0, 0, 0, 0, 0, 0, 0],
  [1, 1, 0, 0, 1, 1, 0, 100, 101, 102, 103, 104, 1, 0, 1, 200, 201, 202, 203, 204, 300, 301, 302, 303, 304, 0, 0, 0, 0, 0, 0, 0],
  [1, 1, 0, 0, 1, 1, 0, 100, 101, 102, 103, 104, 1, 0, 1, 200, 201, 202, 203, 204, 300, 301, 302, 303, 304, 0, 0, 0, 0, 0, 1, 0],
  [1, 1, 0, 0, 1, 1, 0, 100, 101, 102, 103, 104, 0, 1, 1, 200, 201, 202, 203, 204, 300, 301, 302, 303, 304, 0, 0, 0, 0, 0, 0, 0],
  [1, 1, 0, 0, 1, 1, 0, 100, 101, 102, 103, 104, 1, 1, 1, 200, 201, 202, 203, 204, 300, 301, 302, 303, 304, 0, 0, 0, 0, 0, 0, 0],
  [1, 1, 0, 0, 1, 1, 0, 100, 101, 102, 103, 104, 0, 0, 0, 200, 201, 202, 203, 204, 300, 301, 302, 303, 304, 1, 0, 0, 0, 0, 0, 0],
  [1, 1, 0, 0, 1, 1, 0, 100, 101, 102, 103, 104, 1, 0, 0, 200, 201, 202, 203, 204, 300, 301, 302, 303, 304, 1, 0, 0, 0, 0, 0, 0],
  [1, 1, 0, 0, 1, 1, 0, 100, 101, 102, 103, 104, 0, 1, 0, 200, 201, 202, 203, 204, 300, 301, 302, 303, 304, 1, 0, 0, 0, 0, 0, 0],
  [1, 1, 0, 0, 1, 1, 0, 100, 101, 102, 103, 104, 1, 1, 0, 200, 201, 202, 203, 204, 300, 301, 302, 303, 304, 1, 0, 0, 0, 0, 0, 0],
  [1, 1, 0, 0, 1, 1, 0, 100, 101, 102, 103, 104, 0, 0, 1, 200, 201, 202, 203, 204, 300, 301, 302, 303, 304, 1, 0, 0, 0, 0, 0, 0],
  [1, 1, 0, 0, 1, 1, 0, 100, 101, 102, 103, 104, 1, 0, 1, 200, 201, 202, 203, 204, 300, 301, 302, 303, 304, 1, 0, 0, 0, 0, 0, 0],
  [1, 1, 0, 0, 1, 1, 0, 100, 101, 102, 103, 104, 0, 1, 1, 200, 201, 202, 203, 204, 300, 301, 302, 303, 304, 1, 0, 0, 0, 0, 0, 0],
  [1, 1, 0, 0, 1, 1, 0, 100, 101, 102, 103, 104, 1, 1, 1, 200, 201, 202, 203, 204, 300, 301, 302, 303, 304, 1, 0, 0, 0, 0, 0, 0],
  [1, 1, 1, 1, 0, 0, 0, 0, 0, 0, 0, 0, 0, 0, 0, 0, 0, 0, 0, 0, 1, 1, 1, 1, 1, 1, 1, 1, 0, 0, 0, 0],
  [1, 1, 0, 0, 1, 1, 1, 0, 0, 0, 0, 0, 0, 0, 0, 0, 0, 0, 0, 0, 0, 0, 0, 0, 0, 0, 0, 0, 0, 0, 0, 0],
  [1, 1, 0, 0, 1, 1, 1, 0, 0, 0, 0, 0, 0, 0, 0, 0, 0, 0, 0, 0, 1, 0, 0, 0, 0, 0, 0, 0, 0, 0, 0, 0],
  [0, 0, 500, 501, 502, 403, 402, 406, 407, 408, 409, 404, 405, 0, 0, 0, 0, 0, 0, 0, 0, 0, 0, 0, 0, 0, 0, 0, 0, 0, 0, 0],
  [0, 0, 500, 501, 502, 406, 402, 600, 601, 602, 403, 404, 405, 0, 1, 0, 0, 0, 0, 0, 0, 0, 0, 0, 0, 0, 0, 0, 0, 0, 0, 0],
  [0, 0, 700, 701, 702, 406, 402, 600, 601, 602, 403, 404, 405, 0, 1, 1, 0, 0, 0, 0, 0, 0, 0, 0, 0, 0, 0, 0, 0, 0, 0, 0],
  [1, 0, 0, 0, 0, 0, 0, 0, 0, 0, 0, 0, 0, 0, 0, 0, 0, 0, 0, 0, 0, 0, 0, 0, 0, 0, 0, 0, 0, 0, 0, 0],
  [1, 0, 400, 401, 402, 403, 404, 100, 101, 102, 103, 104, 405, 0, 0, 0, 0, 0, 0, 0, 0, 0, 0, 0, 0, 0, 0, 0, 0, 0, 0, 0],
  [1, 0, 405, 401, 402, 403, 407, 406, 410, 408, 409, 404, 411, 1, 0, 0, 0, 0, 0, 0, 0, 0, 0, 0, 0, 0, 0, 0, 0, 0, 0, 0],
  [1, 0, 400, 401, 402, 403, 404, 100, 101, 102, 103, 104, 405, 0, 1, 0, 0, 0, 0, 0, 0, 0, 0, 0, 0, 0, 0, 0, 0, 0, 0, 0],
  [1, 0, 405, 407, 408, 406, 404, 0, 1, 0, 0, 0, 409, 1, 1, 0, 0, 0, 0, 0, 0, 0, 0, 0, 0, 0, 0, 0, 0, 0, 0, 0],
  [1, 0, 400, 401, 402, 403, 404, 100, 101, 102, 103, 104, 405, 1, 1, 0, 0, 0, 0, 0, 0, 0, 0, 0, 0, 0, 0, 0, 0, 0, 0, 0],
  [1, 0, 400, 401, 402, 403, 404, 500, 501, 502, 0, 0, 0, 0, 0, 1, 0, 0, 0, 0, 0, 0, 0, 0, 0, 0, 0, 0, 0, 0, 0, 0],
  [1, 0, 400, 401, 402, 403, 404, 500, 501, 502, 1, 0, 0, 0, 0, 1, 0, 0, 0, 0, 0, 0, 0, 0, 0, 0, 0, 0, 0, 0, 0, 0],
  [1, 0, 400, 401, 402, 403, 404, 500, 501, 502, 0, 1, 405, 0, 0, 1, 0, 0, 0, 0, 0, 0, 0, 0, 0, 0, 0, 0, 0, 0, 0, 0],
  [1, 0, 700, 701, 702, 0, 0, 500, 501, 502, 1, 1, 0, 0, 0, 1, 0, 0, 0, 0, 0, 0, 0, 0, 0, 0, 0, 0, 0, 0, 0, 0],
  [1, 0, 700, 701, 702, 1, 0, 500, 501, 502, 1, 1, 0, 0, 0, 1, 0, 0, 0, 0, 0, 0, 0, 0, 0, 0, 0, 0, 0, 0, 0, 0],
  [1, 0, 700, 701, 702, 0, 1, 500, 501, 502, 1, 1, 0, 0, 0, 1, 0, 0, 0, 0, 0, 0, 0, 0, 0, 0, 0, 0, 0, 0, 0, 0],
  [1, 0, 700, 701, 702, 1, 1, 500, 501, 502, 1, 1, 0, 0, 0, 1, 0, 0, 0, 0, 0, 0, 0, 0, 0, 0, 0, 0, 0, 0, 0, 0],
  [1, 0, 405, 401, 402, 403, 407, 406, 410, 408, 409, 404, 411, 1, 0, 1, 0, 0, 0, 0, 0, 0, 0, 0, 0, 0, 0, 0, 0, 0, 0, 0],
  [1, 0, 405, 401, 402, 406, 407, 600, 601, 602, 403, 404, 408, 0, 1, 1, 0, 0, 0, 0, 0, 0, 0, 0, 0, 0, 0, 0, 0, 0, 0, 0],
  [1, 0, 405, 401, 402, 406, 407, 600, 601, 602, 403, 404, 408, 1, 1, 1, 0, 0, 0, 0, 0, 0, 0, 0, 0, 0, 0, 0, 0, 0, 0, 0],
  [0, 1, 400, 401, 402, 403, 404, 100, 101, 102, 103, 104, 0, 0, 0, 0, 0, 0, 0, 0, 0, 0, 0, 0, 0, 0, 0, 0, 0, 0, 0, 0],
  [0, 1, 406, 407, 402, 403, 404, 100, 101, 102, 103, 104, 405, 0, 1, 0, 0, 0, 0, 0, 0, 0, 0, 0, 0, 0, 0, 0, 0, 0, 0, 0],
  [0, 1, 0, 0, 0, 0, 0, 200, 201, 202, 203, 204, 0, 0, 0, 1, 0, 0, 0, 0, 0, 0, 0, 0, 0, 0, 0, 0, 0, 0, 0, 0],
  [0, 1, 300, 301, 302, 303, 304, 100, 101, 102, 103, 104, 0, 0, 0, 1, 0, 0, 0, 0, 0, 0, 0, 0, 0, 0, 0, 0, 0, 0, 0, 0],
  [0, 1, 0, 0, 0, 0, 0, 0, 0, 0, 0, 0, 1, 0, 0, 1, 0, 0, 0, 0, 0, 0, 0, 0, 0, 0, 0, 0, 0, 0, 0, 0],
  [0, 1, 0, 0, 0, 0, 0, 200, 201, 202, 203, 204, 1, 0, 0, 1, 0, 0, 0, 0, 0, 0, 0, 0, 0, 0, 0, 0, 0, 0, 0, 0],
  [0, 1, 300, 301, 302, 303, 304, 100, 101, 102, 103, 104, 1, 0, 0, 1, 0, 0, 0, 0, 0, 0, 0, 0, 0, 0, 0, 0, 0, 0, 0, 0],
  [0, 1, 300, 301, 302, 303, 304, 406, 407, 402, 403, 404, 405, 0, 1, 1, 0, 0, 0, 0, 0, 0, 0, 0, 0, 0, 0, 0, 0, 0, 0, 0]]
def rN (k j : Nat) : Nat := (rowNL.getD k []).getD j 0
def bN (k : Nat) : Nat := if k < 48 then 32 else 16
def pN (k j : Nat) : Nat := if rN k j < 500 then rN k j / 100 - 1 else rN k j / 100 - 5
def iN (k j : Nat) : Nat := rN k j % 100
def shN (k p : Nat) : Bool := decide (p < 3) && ((List.range (bN k)).any fun j => decide (500 ≤ rN k j ∧ rN k j / 100 - 5 = p))
def sgN (k : Nat) : Nat := if k < 2 then 99 else if k = 2 then 20 else if 23 < k ∧ k < 27 then 99 else if k < 48 then (if 3 < k ∧ k < 10 then 12 else 11) else if k = 52 ∨ k = 54 ∨ k = 56 ∨ k = 59 then 5 else if k = 53 ∨ k = 64 then 11 else if k = 55 then 9 else if k = 65 ∨ k = 66 then 8 else 99
theorem bN_le (k : Nat) : bN k ≤ 32 := by unfold bN; split <;> decide
theorem row_is : ∀ k, k < 75 → ∀ j, j < 32 → rowT (32 * k + j) = nI (rN k j) ∧ (rN k j < 2 ∨ (100 ≤ rN k j ∧ rN k j < 800 ∧ rN k j % 100 < 32)) := by decide +kernel
theorem row_at {k j : Nat} (hk : k < 75) (hj : j < 32) : ((32 * nI k) + nI j).toNatClampNeg = 32 * k + j := by
  have e : (32 * nI k) + nI j = nI (32 * k + j) := by
    rw [show (32 : Int32) = nI 32 from rfl]
    unfold nI
    rw [← Int32.ofNat_mul, ← Int32.ofNat_add]
  rw [e]
  have h := nI_toInt (n := 32 * k + j) (by omega)
  show (nI (32 * k + j)).toInt.toNat = _
  rw [h]
  omega
def rowB (k j : Nat) : Bool := if rN k j < 2 then decide (¬ 2 ≤ rowT (32 * k + j)) && decide (rowT (32 * k + j) ≤ 1) && decide (rowT (32 * k + j) < 500) else decide (2 ≤ rowT (32 * k + j)) && decide (¬ rowT (32 * k + j) ≤ 1) && decide ((((rowT (32 * k + j) - rowT (32 * k + j) / 100 * 100) &&& 31).toBitVec.smod 32).toNat = iN k j) && decide (iN k j < 32) && decide (pN k j < 4) && (if rN k j < 500 then decide (¬ 500 ≤ rowT (32 * k + j)) && decide (rowT (32 * k + j) < 500) && decide ((rowT (32 * k + j) / 100 - 1).toNatClampNeg = pN k j) else decide (500 ≤ rowT (32 * k + j)) && decide (¬ rowT (32 * k + j) < 500) && decide ((rowT (32 * k + j) / 100 - 5).toNatClampNeg = pN k j))
theorem rowB_all : ∀ k, k < 75 → ∀ j, j < 32 → rowB k j = true := by decide +kernel
theorem row_nat : ∀ k, k < 75 → ∀ j, j < 32 → (rN k j < 2 → ¬ 2 ≤ rowT (32 * k + j) ∧ rowT (32 * k + j) ≤ 1 ∧ rowT (32 * k + j) < 500) ∧ (2 ≤ rN k j → 2 ≤ rowT (32 * k + j) ∧ ¬ rowT (32 * k + j) ≤ 1 ∧ (((rowT (32 * k + j) - rowT (32 * k + j) / 100 * 100) &&& 31).toBitVec.smod 32).toNat = iN k j ∧ iN k j < 32 ∧ pN k j < 4) ∧ (2 ≤ rN k j → rN k j < 500 → ¬ 500 ≤ rowT (32 * k + j) ∧ rowT (32 * k + j) < 500 ∧ (rowT (32 * k + j) / 100 - 1).toNatClampNeg = pN k j) ∧ (500 ≤ rN k j → 500 ≤ rowT (32 * k + j) ∧ ¬ rowT (32 * k + j) < 500 ∧ (rowT (32 * k + j) / 100 - 5).toNatClampNeg = pN k j) := by
  intro k hk j hj
  have h := rowB_all k hk j hj
  unfold rowB at h
  by_cases h1 : rN k j < 2
  · rw [if_pos h1] at h
    simp only [Bool.and_eq_true, decide_eq_true_eq] at h
    exact ⟨fun _ => ⟨h.1.1, h.1.2, h.2⟩, fun g => absurd h1 (by omega), fun g => absurd h1 (by omega), fun g => absurd h1 (by omega)⟩
  · rw [if_neg h1] at h
    by_cases h2 : rN k j < 500
    · rw [if_pos h2] at h
      simp only [Bool.and_eq_true, decide_eq_true_eq] at h
      exact ⟨fun g => absurd g h1, fun _ => ⟨h.1.1.1.1.1, h.1.1.1.1.2, h.1.1.1.2, h.1.1.2, h.1.2⟩, fun _ _ => ⟨h.2.1.1, h.2.1.2, h.2.2⟩, fun g => absurd h2 (by omega)⟩
    · rw [if_neg h2] at h
      simp only [Bool.and_eq_true, decide_eq_true_eq] at h
      exact ⟨fun g => absurd g h1, fun _ => ⟨h.1.1.1.1.1, h.1.1.1.1.2, h.1.1.1.2, h.1.1.2, h.1.2⟩, fun _ g => absurd g h2, fun _ => ⟨h.2.1.1, h.2.1.2, h.2.2⟩⟩
theorem bits_is : ∀ k, k < 75 → mF_StepMachineModel_bitsOf (nI k) = nI (bN k) := by decide +kernel
theorem sgn_is : ∀ k, k < 75 → (sgN k = 99 → mF_StepMachineModel_signOf (nI k) < 0) ∧ (sgN k ≠ 99 → ¬ mF_StepMachineModel_signOf (nI k) < 0 ∧ (((31 - mF_StepMachineModel_signOf (nI k)) &&& 31).toBitVec.smod 32).toNat = 31 - sgN k ∧ sgN k < 32) := by decide +kernel
theorem amt_is : ∀ j, j < 32 → ((nI j &&& 31).toBitVec.smod 32).toNat = j := by decide +kernel
theorem sho_is : ∀ k, k < 75 → ∀ p, p < 3 → (mF_StepMachineModel_isShortPart (nI k) (nI p) = 0 ↔ shN k p = false) := by decide +kernel
/-- the word's bit that stands at place i of part p, when j bits have been read -/
def SS (k p : Nat) : Nat → Nat → Nat
  | 0, i => if shN k p = true ∧ i = 3 then 64 else 99
  | j + 1, i => if 2 ≤ rN k j ∧ pN k j = p ∧ iN k j = i then j else SS k p j i
theorem ss_new : ∀ k, k < 75 → ∀ j, j < 32 → j < bN k → 2 ≤ rN k j → SS k (pN k j) j (iN k j) = 99 := by decide +kernel
def finT (x0 : Int32) (P : Nat → Int32) : Int32 × (Nat → Int32) := (if (mF_StepMachineModel_signOf x0) < 0 then (if x0 = 56 then ((mF_StepMachineModel_areGood (upd P (3 : Int32).toNatClampNeg ((P (3 : Int32).toNatClampNeg) &&& 1048575)) x0), (upd P (3 : Int32).toNatClampNeg ((P (3 : Int32).toNatClampNeg) &&& 1048575))) else ((mF_StepMachineModel_areGood P x0), P)) else (if x0 = 56 then ((mF_StepMachineModel_areGood (upd (upd P (3 : Int32).toNatClampNeg (((P (3 : Int32).toNatClampNeg) <<< ((31 - (mF_StepMachineModel_signOf x0)) &&& 31)) >>> ((31 - (mF_StepMachineModel_signOf x0)) &&& 31))) (3 : Int32).toNatClampNeg (((upd P (3 : Int32).toNatClampNeg (((P (3 : Int32).toNatClampNeg) <<< ((31 - (mF_StepMachineModel_signOf x0)) &&& 31)) >>> ((31 - (mF_StepMachineModel_signOf x0)) &&& 31))) (3 : Int32).toNatClampNeg) &&& 1048575)) x0), (upd (upd P (3 : Int32).toNatClampNeg (((P (3 : Int32).toNatClampNeg) <<< ((31 - (mF_StepMachineModel_signOf x0)) &&& 31)) >>> ((31 - (mF_StepMachineModel_signOf x0)) &&& 31))) (3 : Int32).toNatClampNeg (((upd P (3 : Int32).toNatClampNeg (((P (3 : Int32).toNatClampNeg) <<< ((31 - (mF_StepMachineModel_signOf x0)) &&& 31)) >>> ((31 - (mF_StepMachineModel_signOf x0)) &&& 31))) (3 : Int32).toNatClampNeg) &&& 1048575))) else ((mF_StepMachineModel_areGood (upd P (3 : Int32).toNatClampNeg (((P (3 : Int32).toNatClampNeg) <<< ((31 - (mF_StepMachineModel_signOf x0)) &&& 31)) >>> ((31 - (mF_StepMachineModel_signOf x0)) &&& 31))) x0), (upd P (3 : Int32).toNatClampNeg (((P (3 : Int32).toNatClampNeg) <<< ((31 - (mF_StepMachineModel_signOf x0)) &&& 31)) >>> ((31 - (mF_StepMachineModel_signOf x0)) &&& 31))))))
theorem bit_sel (w : Int32) {b : Int32} (j : Nat) (hj : j < 32) (hb : (b.toBitVec.smod 32).toNat = j) : IsSel (fun i => if i = 0 then j else 99) w ((w >>> b) &&& 1) := by
  refine sel_of (sel_and 1 (sel_sar j hb (sel_self w))) fun i hi => ?_
  have h1 : ∀ i, i < 32 → (1 : Int32).toBitVec.getLsbD i = decide (i = 0) := by decide
  rw [h1 i hi]
  by_cases e : i = 0
  · subst e
    simp [hj]
  · simp [e]
theorem bit_shl (w : Int32) {b c : Int32} (j m : Nat) (hj : j < 32) (hb : (b.toBitVec.smod 32).toNat = j) (hc : (c.toBitVec.smod 32).toNat = m) : IsSel (fun i => if i = m then j else 99) w (((w >>> b) &&& 1) <<< c) := by
  refine sel_of (sel_shl m hc (bit_sel w j hj hb)) fun i hi => ?_
  by_cases e : i < m
  · simp [e, show i ≠ m by omega]
  · by_cases e2 : i = m
    · simp [e2]
    · simp [e, e2, show i - m ≠ 0 by omega]
theorem bit_num (w : Int32) {b : Int32} (j t : Nat) (hj : j < 32) (ht : t < 2) (hb : (b.toBitVec.smod 32).toNat = j) : nI t = ((w >>> b) &&& 1) ↔ w.toBitVec.getLsbD j = decide (t = 1) := by
  have h := bit_sel w j hj hb
  have h1 : ∀ i, i < 32 → (1 : Int32).toBitVec.getLsbD i = decide (i = 0) := by decide
  constructor
  · intro e
    have h0 := h 0 (by decide)
    simp only [← e, if_pos, gb_lt hj] at h0
    rw [← h0]
    rcases (show t = 0 ∨ t = 1 by omega) with e | e <;> subst e <;> decide
  · intro e
    symm
    refine sel_val h fun i hi => ?_
    by_cases e0 : i = 0
    · subst e0
      rw [if_pos rfl, gb_lt hj, e]
      rcases (show t = 0 ∨ t = 1 by omega) with e | e <;> subst e <;> decide
    · rw [if_neg e0, gb_99]
      have h2 : ∀ t, t < 2 → ∀ i, i < 32 → i ≠ 0 → (nI t).toBitVec.getLsbD i = false := by decide
      exact (h2 t ht i hi e0).symm
theorem nJ_le {a b : Nat} (ha : a < 2 ^ 31) (hb : b < 2 ^ 31) : nI a ≤ nI b ↔ a ≤ b := by
  rw [Int32.le_iff_toInt_le, nI_toInt (by omega), nI_toInt (by omega)]
  omega
section STEPS
variable {k j n : Nat} {w : Int32} {P : Nat → Int32}
theorem take_end (hk : k < 75) (hj : j = bN k) : mF_StepMachineModel_take_L41 (nI k) w (n + 1) (nI j) P = finT (nI k) P := by
  rw [mF_StepMachineModel_take_L41, bits_is k hk, if_pos (by rw [nJ_le (by have := bN_le k; omega) (by have := bN_le k; omega)]; omega)]
  rfl
theorem take_fix (hk : k < 75) (hj : j < bN k) (ht : rN k j < 2) : mF_StepMachineModel_take_L41 (nI k) w (n + 1) (nI j) P = if w.toBitVec.getLsbD j = decide (rN k j = 1) then mF_StepMachineModel_take_L41 (nI k) w n (nI (j + 1)) P else (0, P) := by
  have hb := bN_le k
  have hj2 : j < 32 := by omega
  have hr := (row_nat k hk j hj2).1 ht
  rw [mF_StepMachineModel_take_L41, bits_is k hk, if_neg (by rw [nJ_le (by omega) (by omega)]; omega), row_at hk hj2, if_neg hr.1, if_pos hr.2.1, if_pos hr.2.2, nI_succ, (row_is k hk j hj2).1]
  simp only [bit_num w j (rN k j) hj2 ht (amt_is j hj2)]
theorem take_put (hk : k < 75) (hj : j < bN k) (ht : 2 ≤ rN k j) : mF_StepMachineModel_take_L41 (nI k) w (n + 1) (nI j) P = mF_StepMachineModel_take_L41 (nI k) w n (nI (j + 1)) (upd P (pN k j) (P (pN k j) + (((w >>> (nI j &&& 31)) &&& 1) <<< ((rowT (32 * k + j) - rowT (32 * k + j) / 100 * 100) &&& 31)))) := by
  have hb := bN_le k
  have hj2 : j < 32 := by omega
  have hr := (row_nat k hk j hj2).2
  have h1 := hr.1 ht
  rw [mF_StepMachineModel_take_L41, bits_is k hk, if_neg (by rw [nJ_le (by omega) (by omega)]; omega), row_at hk hj2, if_pos h1.1, if_neg h1.2.1, nI_succ]
  by_cases e : rN k j < 500
  · have h2 := hr.2.1 ht e
    rw [if_neg h2.1, if_pos h2.2.1, h2.2.2]
  · have h2 := hr.2.2 (by omega)
    rw [if_pos h2.1, if_neg h2.2.1, h2.2.2]
end STEPS
def MTf (k : Nat) (w : Int32) (j0 : Nat) : Prop := ∀ j, j0 ≤ j → j < bN k → rN k j < 2 → w.toBitVec.getLsbD j = decide (rN k j = 1)
theorem take_run {k : Nat} (hk : k < 75) (w : Int32) : ∀ (n j : Nat) (P : Nat → Int32), j + n = bN k → (∀ p, p < 4 → IsSel (SS k p j) w (P p)) → (MTf k w j → ∃ P', mF_StepMachineModel_take_L41 (nI k) w (n + 1) (nI j) P = finT (nI k) P' ∧ ∀ p, p < 4 → IsSel (SS k p (bN k)) w (P' p)) ∧ (¬ MTf k w j → (mF_StepMachineModel_take_L41 (nI k) w (n + 1) (nI j) P).1 = 0) := by
  intro n
  induction n with
  | zero =>
    intro j P hj hP
    have e : j = bN k := by omega
    refine ⟨fun _ => ⟨P, take_end hk e, ?_⟩, fun h => absurd (fun j' h1 h2 => by omega) h⟩
    rw [← e]
    exact hP
  | succ n ih =>
    intro j P hj hP
    have hjb : j < bN k := by omega
    have hb := bN_le k
    by_cases ht : rN k j < 2
    · rw [take_fix hk hjb ht]
      have hs : ∀ p, p < 4 → IsSel (SS k p (j + 1)) w (P p) := fun p hp => by
        refine sel_of (hP p hp) fun i hi => ?_
        rw [SS, if_neg (by omega)]
      by_cases hb : w.toBitVec.getLsbD j = decide (rN k j = 1)
      · rw [if_pos hb]
        have h := ih (j + 1) P (by omega) hs
        refine ⟨fun hm => h.1 fun j' h1 => hm j' (by omega), fun hm => h.2 fun h2 => hm fun j' h1 h3 h4 => ?_⟩
        by_cases e : j' = j
        · subst e; exact hb
        · exact h2 j' (by omega) h3 h4
      · rw [if_neg hb]
        exact ⟨fun hm => absurd (hm j (Nat.le_refl j) hjb ht) hb, fun _ => rfl⟩
    · have ht2 : 2 ≤ rN k j := by omega
      rw [take_put hk hjb ht2]
      have hr := (row_nat k hk j (by omega)).2.1 ht2
      have hs : ∀ p, p < 4 → IsSel (SS k p (j + 1)) w ((upd P (pN k j) (P (pN k j) + (((w >>> (nI j &&& 31)) &&& 1) <<< ((rowT (32 * k + j) - rowT (32 * k + j) / 100 * 100) &&& 31)))) p) := fun p hp => by
        by_cases e : p = pN k j
        · subst e
          rw [pk_us]
          refine sel_of (sel_add (hP _ hp) (bit_shl w j (iN k j) (by omega) (amt_is j (by omega)) hr.2.2.1) fun i hi => ?_) fun i hi => ?_
          · by_cases e : i = iN k j
            · left; rw [e]; exact ss_new k hk j (by omega) hjb ht2
            · right; rw [if_neg e]
          · rw [SS]
            by_cases e : i = iN k j
            · rw [e, if_pos (ss_new k hk j (by omega) hjb ht2), if_pos rfl, if_pos ⟨ht2, rfl, rfl⟩]
            · by_cases e2 : SS k (pN k j) j i = 99
              · rw [if_pos e2, if_neg e, if_neg (fun hh => e hh.2.2.symm), e2]
              · rw [if_neg e2, if_neg (fun hh => e hh.2.2.symm)]
        · rw [pk_un e]
          refine sel_of (hP p hp) fun i hi => ?_
          rw [SS, if_neg (by intro hh; exact e hh.2.1.symm)]
      have h := ih (j + 1) _ (by omega) hs
      refine ⟨fun hm => h.1 fun j' h1 => hm j' (by omega), fun hm => h.2 fun h2 => hm fun j' h1 h3 h4 => ?_⟩
      by_cases e : j' = j
      · subst e; omega
      · exact h2 j' (by omega) h3 h4
/-- the parts as they are when a word has been taken for a kind -/
def SP (k p i : Nat) : Nat := if p = 3 then (if k = 56 ∧ 20 ≤ i then 99 else if sgN k = 99 then SS k 3 (bN k) i else SS k 3 (bN k) (if i < sgN k then i else sgN k)) else SS k p (bN k) i
