/-! THE REFERENCE: isHead. -/
/-- CHANGE d depends on CHANGE c: da, dm: where its DEPS begin, how many they are -/
def rDp (S : MS) (da dm : Nat → Nat) (d c : Nat) : Bool := (firstTo (fun k => decide (S.a 33 (da d + k) = nI c)) (dm d)).isSome
def rDs (S : MS) (da dm : Nat → Nat) (n : Nat) : Prop := ∀ d, d < n → S.a 31 d = nI (da d) ∧ S.a 32 d = nI (dm d) ∧ da d + dm d ≤ 10000
def rHd (S : MS) (da dm : Nat → Nat) (n r c : Nat) : Bool := (!decide (S.a (101 + r) c = 0)) && (firstTo (fun d => (!decide (S.a (101 + r) d = 0)) && rDp S da dm d c) n).isNone
theorem pr_isHead {S : MS} {da dm : Nat → Nat} {r c n : Nat} (hr : r < 8) (hcn : c < 1000) (hn : S.i 34 = nI n) (h : n ≤ 1000) (hd : rDs S da dm n) : m_risHead S (nI r) (nI c) = some (S, b2 (rHd S da dm n r c)) := by
  have hin : ∀ d, d < n → m_risHead_L40 S (nI r) (nI c) (nI d) 0 = some (match firstTo (fun k => decide (S.a 33 (da d + k) = nI c)) (dm d) with | some _ => .inr (S, 0) | none => .inl (S, nI r, nI c, nI d)) := by
    intro d hdn
    obtain ⟨e1, e2, e3⟩ := hd d hdn
    refine lp_first (body := fun y : MS × Int32 × Int32 × Int32 × Int32 => m_risHead_B40 y.1 y.2.1 y.2.2.1 y.2.2.2.1 y.2.2.2.2) (fun k => (S, nI r, nI c, nI d, nI k)) (fun k => decide (S.a 33 (da d + k) = nI c)) (dm d) (.inl (S, nI r, nI c, nI d)) (fun _ => .inr (S, 0)) (by omega) ?_ ?_ ?_
    · intro k hk hp
      show m_risHead_B40 S (nI r) (nI c) (nI d) (nI k) = _
      unfold m_risHead_B40
      rw [gd_ok (show d < 1000 by omega) (by decide), gd_ok (show d < 1000 by omega) (by decide), cl_nI (show d < 2 ^ 31 by omega), e1, e2, nI_add, gd_ok (show da d + k < 10000 by omega) (by decide), cl_nI (show da d + k < 2 ^ 31 by omega), if_neg (nle hk (by omega)), if_neg (by simpa using hp), nI_s]
    · intro k hk hp
      show m_risHead_B40 S (nI r) (nI c) (nI d) (nI k) = _
      unfold m_risHead_B40
      rw [gd_ok (show d < 1000 by omega) (by decide), gd_ok (show d < 1000 by omega) (by decide), cl_nI (show d < 2 ^ 31 by omega), e1, e2, nI_add, gd_ok (show da d + k < 10000 by omega) (by decide), cl_nI (show da d + k < 2 ^ 31 by omega), if_neg (nle hk (by omega)), if_pos (by simpa using hp)]
    · show m_risHead_B40 S (nI r) (nI c) (nI d) (nI (dm d)) = _
      unfold m_risHead_B40
      rw [gd_ok (show d < 1000 by omega) (by decide), cl_nI (show d < 2 ^ 31 by omega), e2, if_pos (Int32.le_refl _)]
  have hl : m_risHead_L15 S (nI r) (nI c) 0 = some (match firstTo (fun d => (!decide (S.a (101 + r) d = 0)) && rDp S da dm d c) n with | some _ => .inr (S, 0) | none => .inl S) := by
    refine lp_first (body := fun y : MS × Int32 × Int32 × Int32 => m_risHead_B15 y.1 y.2.1 y.2.2.1 y.2.2.2) (fun d => (S, nI r, nI c, nI d)) (fun d => (!decide (S.a (101 + r) d = 0)) && rDp S da dm d c) n (.inl S) (fun _ => .inr (S, 0)) (by omega) ?_ ?_ ?_
    · intro d hdn hp
      show m_risHead_B15 S (nI r) (nI c) (nI d) = _
      unfold m_risHead_B15
      rw [hn, if_neg (nle hdn (by omega)), gd_ok hr (by decide), gd_ok (show d < 1000 by omega) (by decide), cl_nI (show r < 2 ^ 31 by omega), cl_nI (show d < 2 ^ 31 by omega), hin d hdn]
      unfold m_risHead_J77
      by_cases h1 : S.a (101 + r) d = 0
      · rw [if_pos h1, nI_s]
      · rw [if_neg h1]
        unfold rDp at hp
        cases hf : firstTo (fun k => decide (S.a 33 (da d + k) = nI c)) (dm d) with
        | none => show some (Sum.inl (S, nI r, nI c, nI d + 1)) = _; rw [nI_s]
        | some k => simp [h1, hf] at hp
    · intro d hdn hp
      show m_risHead_B15 S (nI r) (nI c) (nI d) = _
      unfold m_risHead_B15
      rw [hn, if_neg (nle hdn (by omega)), gd_ok hr (by decide), gd_ok (show d < 1000 by omega) (by decide), cl_nI (show r < 2 ^ 31 by omega), cl_nI (show d < 2 ^ 31 by omega), hin d hdn]
      unfold rDp at hp
      simp only [Bool.and_eq_true, Bool.not_eq_true', decide_eq_false_iff_not] at hp
      rw [if_neg hp.1]
      cases hf : firstTo (fun k => decide (S.a 33 (da d + k) = nI c)) (dm d) with
      | none => rw [hf] at hp; simp at hp
      | some k => rfl
    · show m_risHead_B15 S (nI r) (nI c) (nI n) = _
      unfold m_risHead_B15
      rw [hn, if_pos (Int32.le_refl _)]
  unfold m_risHead m_risHead_J0
  rw [gd_ok hr (by decide), gd_ok hcn (by decide), cl_nI (show r < 2 ^ 31 by omega), cl_nI (show c < 2 ^ 31 by omega), hl]
  unfold rHd
  by_cases h1 : S.a (101 + r) c = 0
  · rw [if_pos h1]; simp [h1, b2]
  · rw [if_neg h1]
    cases hf : firstTo (fun d => (!decide (S.a (101 + r) d = 0)) && rDp S da dm d c) n with
    | none => simp [h1, b2, oe]
    | some d => simp [oe, b2]
