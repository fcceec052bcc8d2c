/-! THE REFERENCE: told. -/
def rTold (S : MS) (x : Int32) : Int32 :=
  if x = 0 then S.i 4 else if x = 1 then S.i 7 else if x = 2 then S.i 23 else if x = 3 then S.i 34 else if x = 4 then S.i 27 else if x = 5 then S.i 42 else if x = 6 then S.i 41 else if x = 7 then (if S.i 43 = 0 then 0 else 1) else -1
theorem pr_told {S : MS} {x : Int32} : m_rtold S x = some (S.setI 0 0, rTold S x) := by
  unfold m_rtold m_rtold_J0 rTold m_rtold_J99
  by_cases c0 : x = 0
  · rw [if_pos c0, if_pos c0]
  rw [if_neg c0, if_neg c0]
  by_cases c1 : x = 1
  · rw [if_pos c1, if_pos c1]
  rw [if_neg c1, if_neg c1]
  by_cases c2 : x = 2
  · rw [if_pos c2, if_pos c2]
  rw [if_neg c2, if_neg c2]
  by_cases c3 : x = 3
  · rw [if_pos c3, if_pos c3]
  rw [if_neg c3, if_neg c3]
  by_cases c4 : x = 4
  · rw [if_pos c4, if_pos c4]
  rw [if_neg c4, if_neg c4]
  by_cases c5 : x = 5
  · rw [if_pos c5, if_pos c5]
  rw [if_neg c5, if_neg c5]
  by_cases c6 : x = 6
  · rw [if_pos c6, if_pos c6]
  rw [if_neg c6, if_neg c6]
  by_cases c7 : x = 7
  · rw [if_pos c7, if_pos c7]
    by_cases c8 : S.i 43 = 0
    · rw [if_pos c8, if_pos c8]
    · rw [if_neg c8, if_neg c8]
  rw [if_neg c7, if_neg c7]
