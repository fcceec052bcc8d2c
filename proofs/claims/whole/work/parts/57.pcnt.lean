/-! THE REFERENCE: count, whole. -/
/-- what a reading method needs to know of the reference's state: no OPS, nc CHANGES -/
def rOK (S : MS) (da dm : Nat → Nat) (no nc : Nat) : Prop := rB S ∧ S.i 23 = nI no ∧ no ≤ 4000 ∧ S.i 34 = nI nc ∧ nc ≤ 1000 ∧ (∀ o, o < no → rC S o) ∧ rDs S da dm nc
theorem rOK.setI {S : MS} {da dm : Nat → Nat} {no nc k : Nat} {v : Int32} (h : rOK S da dm no nc) (h1 : k ≠ 23) (h2 : k ≠ 34) : rOK (S.setI k v) da dm no nc := by
  obtain ⟨a, b, c, d, e, f, g⟩ := h
  exact ⟨a, (if_neg (fun q => h1 q.symm)).trans b, c, (if_neg (fun q => h2 q.symm)).trans d, e, f, g⟩
def rCnt (S : MS) (da dm : Nat → Nat) (no nc r : Nat) (x : Int32) : Int32 :=
  if x = 0 then nI (cntTo (fun c => !decide (S.a (101 + r) c = 0)) nc) else
  if x = 1 then nI (cntTo (fun c => !decide (S.a (109 + r) c = 0)) nc) else
  if x = 2 then nI (cntTo (rHd S da dm nc r) nc) else
  if x = 3 then nI (cntTo (opnR S (nI r)) no) else
  if x = 4 then nI (cntTo (rOwn S r) no) else
  if x = 5 then grTo S r no else
  if x = 6 then nI (cntTo (rVw S r) nc) else
  if x < 10 then -1 else if 18 ≤ x then -1 else nI (cntTo (rNo S r (x - 10)) nc)
theorem ob_s {α τ : Type} {a : α} {f : α → Option τ} : ob (some a) f = f a := rfl
theorem pr_count {S : MS} {da dm : Nat → Nat} {no nc r : Nat} {x : Int32} (h : rOK S da dm no nc) (hr : r < 8) : m_rcount S (nI r) x = some (S.setI 0 0, rCnt (S.setI 0 0) da dm no nc r x) := by
  obtain ⟨h1, h2, h3, h4, h5, h6, h7⟩ := h.setI (k := 0) (v := 0) (by decide) (by decide)
  unfold m_rcount m_rcount_J0
  rw [pr_isR hr, ob_s]
  dsimp only
  rw [if_neg (show ¬ (1 : Int32) = 0 by decide)]
  unfold rCnt
  by_cases c0 : x = 0
  · rw [if_pos c0, if_pos c0, pk_has hr h4 h5]; rfl
  rw [if_neg c0, if_neg c0]
  by_cases c1 : x = 1
  · rw [if_pos c1, if_pos c1]; rw [pk_waits hr h4 h5]; rfl
  rw [if_neg c1, if_neg c1]
  by_cases c2 : x = 2
  · rw [if_pos c2, if_pos c2]; rw [pk_heads hr h4 h5 h7]; rfl
  rw [if_neg c2, if_neg c2]
  by_cases c3 : x = 3
  · rw [if_pos c3, if_pos c3]; rw [pr_open h2 h3]; rfl
  rw [if_neg c3, if_neg c3]
  by_cases c4 : x = 4
  · rw [if_pos c4, if_pos c4]; rw [pk_owns h1 hr h2 h3 h6]; rfl
  rw [if_neg c4, if_neg c4]
  by_cases c5 : x = 5
  · rw [if_pos c5, if_pos c5]; rw [pr_greatest h1 hr h2 h3 h6]; rfl
  rw [if_neg c5, if_neg c5]
  by_cases c6 : x = 6
  · rw [if_pos c6, if_pos c6]; rw [pr_view hr h4 h5]; rfl
  rw [if_neg c6, if_neg c6]
  by_cases c7 : x < 10
  · rw [if_pos c7, if_pos c7]; rfl
  rw [if_neg c7, if_neg c7]
  by_cases c8 : 18 ≤ x
  · rw [if_pos c8, if_pos c8]; rfl
  rw [if_neg c8, if_neg c8]
  rw [pr_numberOf hr h4 h5]
  rfl
theorem pr_countN {S : MS} {r x : Int32} (h : r < 0 ∨ 8 ≤ r) : m_rcount S r x = some (S.setI 0 1, 0) := by
  unfold m_rcount m_rcount_J0
  rw [pr_isN h]
  rfl
