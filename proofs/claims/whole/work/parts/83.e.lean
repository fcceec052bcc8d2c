/-! THE CALL splice. -/
theorem nI_int {n : Nat} (h : n < 2 ^ 31) : (nI n).toInt = n := by
  unfold nI
  exact Int32.toInt_ofNat_of_lt h
theorem lg_le {k n m : Nat} (hk : k < 2 ^ 31) (hn : n < 2 ^ 31) (hm : m < 2 ^ 31) : (lg_cmp ((nI k).toInt64 + (nI n).toInt64) (nI m).toInt64 ≤ 0) ↔ k + n ≤ m := by
  have e1 : ((nI k).toInt64 + (nI n).toInt64).toInt = k + n := by
    rw [Int64.toInt_add, Int32.toInt_toInt64, Int32.toInt_toInt64, nI_int hk, nI_int hn]
    rw [Int.bmod_eq_of_le (by omega) (by omega)]
  have e2 : ((nI m).toInt64).toInt = m := by rw [Int32.toInt_toInt64, nI_int hm]
  unfold lg_cmp
  by_cases c1 : (nI k).toInt64 + (nI n).toInt64 > (nI m).toInt64
  · rw [if_pos c1]
    have : (nI m).toInt64 < (nI k).toInt64 + (nI n).toInt64 := c1
    rw [Int64.lt_iff_toInt_lt, e1, e2] at this
    constructor
    · intro h; exact absurd h (by decide)
    · intro h; omega
  · rw [if_neg c1]
    have h1 : ¬ (nI m).toInt64 < (nI k).toInt64 + (nI n).toInt64 := c1
    rw [Int64.lt_iff_toInt_lt, e1, e2] at h1
    constructor
    · intro _; omega
    · intro _
      split <;> decide
