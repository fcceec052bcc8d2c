/-! THE CLASS'S ROWS, what their methods do. -/
/-- x is a row over the bytes b, holding n of them -/
def isRow (N : Nat → Nat) (S : CS) (x b n : Nat) : Prop := x < N 5 ∧ S.r 5 0 x = some b ∧ b < N 13 ∧ S.i 5 1 x = nI n ∧ n ≤ S.z 13 b ∧ S.z 13 b < 2 ^ 31
theorem gl_ok {τ : Type} {j n : Nat} {k : Option τ} (h : j < n) : gl j n k = k := if_pos h
theorem gn_ok {τ : Type} {x : Option Nat} {j n : Nat} {k : Nat → Option τ} (hx : x = some j) (h : j < n) : gn x n k = k j := by
  subst hx
  exact if_pos h
theorem pc_at {N : Nat → Nat} {S : CS} {x b n j : Nat} (h : isRow N S x b n) (hj : j < n) : m_cRw_at N x S (nI j) = some (S, S.a 13 b j &&& 255) := by
  obtain ⟨h1, h2, h3, h4, h5, h6⟩ := h
  unfold m_cRw_at m_cRw_at_J0
  rw [if_neg (nI_pos (by omega)), gl_ok h1, h4, if_pos (nI_lt hj (by omega)), gn_ok h2 h3, gd_ok (by omega) (by omega), cl_nI (by omega)]
  rfl
theorem pc_out {N : Nat → Nat} {S : CS} {x b n : Nat} {i : Int32} (h : isRow N S x b n) (hi : i < 0 ∨ nI n ≤ i) : m_cRw_at N x S i = some (S, -1) := by
  obtain ⟨h1, h2, h3, h4, h5, h6⟩ := h
  unfold m_cRw_at m_cRw_at_J0
  by_cases h0 : i < 0
  · rw [if_pos h0]; rfl
  · rw [if_neg h0, gl_ok h1, h4, if_neg (Int32.not_lt.mpr (hi.resolve_left h0))]; rfl
theorem pc_clear {N : Nat → Nat} {S : CS} {x : Nat} (h : x < N 5) : m_cRw_clear N x S = some ((S.setI 5 1 x 0).setI 5 2 x 0) := by
  unfold m_cRw_clear m_cRw_clear_J0
  rw [gl_ok h]
theorem pc_write {N : Nat → Nat} {S : CS} {x b n : Nat} {v : Int32} (h : isRow N S x b n) (hn : n < S.z 13 b) : m_cRw_write N x S v = some ((S.setA 13 b n (vp_nar .byte v.toInt8.toInt32)).setI 5 1 x (nI (n + 1))) := by
  obtain ⟨h1, h2, h3, h4, h5, h6⟩ := h
  unfold m_cRw_write m_cRw_write_J0
  rw [gl_ok h1, gn_ok h2 h3, h4, if_neg (nle hn h6), gd_ok hn (by omega), cl_nI (by omega), nI_s]
  rfl
theorem pc_spilt {N : Nat → Nat} {S : CS} {x b n : Nat} {v : Int32} (h : isRow N S x b n) (hn : S.z 13 b ≤ n) : m_cRw_write N x S v = some (S.setI 5 2 x 1) := by
  obtain ⟨h1, h2, h3, h4, h5, h6⟩ := h
  have e : n = S.z 13 b := by omega
  unfold m_cRw_write m_cRw_write_J0
  rw [gl_ok h1, gn_ok h2 h3, h4, e, if_pos (Int32.le_refl _)]
  rfl
/-- OP o is in the view that the class shows -/
theorem pc_shows {N : Nat → Nat} {S : CS} {x o ck id ch : Nat} (h1 : o < N 3) (h2 : x < N 10) (h3 : S.r 10 1 x = some ck) (h4 : ck < N 12) (h5 : S.z 12 ck = 8) (h6 : S.i 3 0 o &&& 7 = nI id) (h7 : id < 8) (h8 : S.i 3 4 o = nI ch) : m_cVw_shows N x S o = some (S, if S.a 12 ck id < nI ch then 0 else 1) := by
  unfold m_cVw_shows m_cVw_shows_J0
  rw [gl_ok h1, gl_ok h2, gn_ok h3 h4, h5, h6, gd_ok h7 (by decide), cl_nI (by omega), h8]
  by_cases h : S.a 12 ck id < nI ch
  · rw [if_pos h, if_pos h]; rfl
  · rw [if_neg h, if_neg h]; rfl
