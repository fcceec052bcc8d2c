/-! THE REFERENCE: harm. -/
/-- the byte at i of OUT with the bit turned -/
def rBit (v bit : Int32) : Int32 := vp_nar .byte ((v ^^^ ((1 : Int32) <<< (bit &&& 31)).toInt8.toInt32).toInt8.toInt32)
theorem pr_harm1 {S : MS} {i bit : Int32} (h : bit < 0 ∨ ¬ bit ≤ 7) : m_rharm S i bit = some (S.setI 0 1) := by
  unfold m_rharm m_rharm_J0
  by_cases h1 : bit < 0
  · rw [if_pos h1]; rfl
  · rw [if_neg h1, if_neg (h.resolve_left h1)]; rfl
theorem pr_harm2 {S : MS} {i bit : Int32} (h1 : ¬ bit < 0) (h2 : bit ≤ 7) (h : i < 0 ∨ ¬ i < S.i 41) : m_rharm S i bit = some (S.setI 0 2) := by
  unfold m_rharm m_rharm_J0
  rw [if_neg h1, if_pos h2]
  by_cases h3 : i < 0
  · rw [if_pos h3]; rfl
  · rw [if_neg h3, if_neg (h.resolve_left h3)]; rfl
theorem pr_harm {S : MS} {j n : Nat} {bit : Int32} (h1 : ¬ bit < 0) (h2 : bit ≤ 7) (hn : S.i 41 = nI n) (h : n ≤ 800000) (hj : j < n) : m_rharm S (nI j) bit = some ((S.setI 0 0).setA 40 (upd (S.a 40) j (rBit (S.a 40 j) bit))) := by
  unfold m_rharm m_rharm_J0
  rw [if_neg h1, if_pos h2, if_neg (nI_pos (by omega)), hn, if_pos (nI_lt hj (by omega)), gd_ok (show j < 800000 by omega) (by decide), gd_ok (show j < 800000 by omega) (by decide), cl_nI (show j < 2 ^ 31 by omega)]
  rfl
