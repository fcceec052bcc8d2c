/-! SEARCHES OF THE REFERENCE: the first place that fits. -/
def firstTo (p : Nat → Bool) : Nat → Option Nat
  | 0 => none
  | n + 1 => match firstTo p n with
    | some i => some i
    | none => if p n then some n else none
theorem firstTo_none {p : Nat → Bool} {n : Nat} (h : firstTo p n = none) : ∀ j, j < n → p j = false := by
  induction n with
  | zero => intro j hj; omega
  | succ n ih =>
    rw [firstTo] at h
    cases hf : firstTo p n with
    | some i => rw [hf] at h; cases h
    | none =>
      rw [hf] at h
      intro j hj
      by_cases hjn : j < n
      · exact ih hf j hjn
      · obtain rfl : j = n := by omega
        cases hp : p j with
        | false => rfl
        | true => simp [hp] at h
theorem firstTo_some {p : Nat → Bool} {n i : Nat} (h : firstTo p n = some i) : i < n ∧ p i = true ∧ ∀ j, j < i → p j = false := by
  induction n with
  | zero => cases h
  | succ n ih =>
    rw [firstTo] at h
    cases hf : firstTo p n with
    | some i' =>
      rw [hf] at h
      cases h
      obtain ⟨h1, h2, h3⟩ := ih hf
      exact ⟨by omega, h2, h3⟩
    | none =>
      rw [hf] at h
      cases hp : p n with
      | false => simp [hp] at h
      | true =>
        simp [hp] at h
        subst h
        exact ⟨by omega, hp, firstTo_none hf⟩
/-- a loop over i that goes on while p i is not, and ends at the first that is, or at n -/
theorem lp_first {α ε : Type} {body : α → Option (α ⊕ ε)} (f : Nat → α) (p : Nat → Bool) (n : Nat) (e0 : ε) (e1 : Nat → ε) (hn : n < 1000000) (hs : ∀ i, i < n → p i = false → body (f i) = some (.inl (f (i + 1)))) (h1 : ∀ i, i < n → p i = true → body (f i) = some (.inr (e1 i))) (h0 : body (f n) = some (.inr e0)) :
    lp body FU (f 0) = some (match firstTo p n with | some i => e1 i | none => e0) := by
  cases hf : firstTo p n with
  | none => exact lp_iter f n e0 (fun i hi => hs i hi (firstTo_none hf i hi)) h0 FU (fu_gt hn)
  | some i =>
    obtain ⟨hi, hp, hlt⟩ := firstTo_some hf
    exact lp_iter f i (e1 i) (fun j hj => hs j (by omega) (hlt j hj)) (h1 i hi hp) FU (fu_gt (by omega))
def rFd (S : MS) (a x : Int32) (c : Nat) : Bool := decide (S.a 29 c = a) && decide (S.a 30 c = x)
theorem pr_find {S : MS} {a x : Int32} {n : Nat} (hn : S.i 34 = nI n) (h : n ≤ 1000) : m_rfind S a x = some (S, match firstTo (rFd S a x) n with | some c => nI c | none => -1) := by
  have hl : m_rfind_L2 S a x 0 = some (match firstTo (rFd S a x) n with | some c => .inr (S, nI c) | none => .inl S) := by
    refine lp_first (body := fun y : MS × Int32 × Int32 × Int32 => m_rfind_B2 y.1 y.2.1 y.2.2.1 y.2.2.2) (fun i => (S, a, x, nI i)) (rFd S a x) n (.inl S) (fun c => .inr (S, nI c)) (by omega) ?_ ?_ ?_
    · intro i hi hp
      show m_rfind_B2 S a x (nI i) = _
      unfold m_rfind_B2
      rw [hn, if_neg (nle hi (by omega)), gd_ok (show i < 1000 by omega) (by decide), gd_ok (show i < 1000 by omega) (by decide), cl_nI (show i < 2 ^ 31 by omega)]
      unfold rFd at hp
      unfold m_rfind_J32
      by_cases h1 : S.a 29 i = a
      · by_cases h2 : S.a 30 i = x
        · simp [h1, h2] at hp
        · rw [if_pos h1, if_neg h2, nI_s]
      · rw [if_neg h1, nI_s]
    · intro i hi hp
      show m_rfind_B2 S a x (nI i) = _
      unfold m_rfind_B2
      rw [hn, if_neg (nle hi (by omega)), gd_ok (show i < 1000 by omega) (by decide), gd_ok (show i < 1000 by omega) (by decide), cl_nI (show i < 2 ^ 31 by omega)]
      unfold rFd at hp
      simp only [Bool.and_eq_true, decide_eq_true_eq] at hp
      rw [if_pos hp.1, if_pos hp.2]
    · show m_rfind_B2 S a x (nI n) = _
      unfold m_rfind_B2
      rw [hn, if_pos (Int32.le_refl _)]
  unfold m_rfind m_rfind_J0
  rw [hl]
  cases firstTo (rFd S a x) n <;> rfl
def rMk (S : MS) (r : Nat) (obj : Int32) (o : Nat) : Bool := decide (S.a 8 o = obj) && rIn S r o && (!decide (S.a 11 o < 6)) && (!decide (8 < S.a 11 o))
theorem pr_maker {S : MS} {r n : Nat} {obj : Int32} (hb : rB S) (hr : r < 8) (hn : S.i 23 = nI n) (h : n ≤ 4000) (hc : ∀ o, o < n → rC S o) : m_rmaker S (nI r) obj = some (S, if obj = 0 then -1 else match firstTo (rMk S r obj) n with | some o => nI o | none => -2) := by
  have hl : m_rmaker_L8 S (nI r) obj 0 = some (match firstTo (rMk S r obj) n with | some o => .inr (S, nI o) | none => .inl S) := by
    refine lp_first (body := fun y : MS × Int32 × Int32 × Int32 => m_rmaker_B8 y.1 y.2.1 y.2.2.1 y.2.2.2) (fun i => (S, nI r, obj, nI i)) (rMk S r obj) n (.inl S) (fun c => .inr (S, nI c)) (by omega) ?_ ?_ ?_
    · intro i hi hp
      show m_rmaker_B8 S (nI r) obj (nI i) = _
      unfold m_rmaker_B8
      rw [hn, if_neg (nle hi (by omega)), gd_ok (show i < 4000 by omega) (by decide), cl_nI (show i < 2 ^ 31 by omega), pr_in hb hr (by omega) (hc i hi)]
      unfold rMk at hp
      unfold m_rmaker_J59
      by_cases h1 : S.a 8 i = obj
      · rw [if_pos h1]
        show (if b2 (rIn S r i) = 0 then _ else _) = _
        cases h2 : rIn S r i with
        | false => rw [if_pos (show b2 false = 0 from rfl), nI_s]
        | true =>
          rw [if_neg (show ¬ b2 true = 0 by decide), gd_ok (show i < 4000 by omega) (by decide), gd_ok (show i < 4000 by omega) (by decide)]
          by_cases h3 : S.a 11 i < 6
          · rw [if_pos h3, nI_s]
          · by_cases h4 : 8 < S.a 11 i
            · rw [if_neg h3, if_pos h4, nI_s]
            · simp [h1, h2, h3, h4] at hp
      · rw [if_neg h1, nI_s]
    · intro i hi hp
      show m_rmaker_B8 S (nI r) obj (nI i) = _
      unfold m_rmaker_B8
      rw [hn, if_neg (nle hi (by omega)), gd_ok (show i < 4000 by omega) (by decide), cl_nI (show i < 2 ^ 31 by omega), pr_in hb hr (by omega) (hc i hi)]
      unfold rMk at hp
      simp only [Bool.and_eq_true, decide_eq_true_eq, Bool.not_eq_true', decide_eq_false_iff_not] at hp
      obtain ⟨⟨⟨p1, p2⟩, p3⟩, p4⟩ := hp
      rw [if_pos p1]
      show (if b2 (rIn S r i) = 0 then _ else _) = _
      rw [p2, if_neg (show ¬ b2 true = 0 by decide), gd_ok (show i < 4000 by omega) (by decide), gd_ok (show i < 4000 by omega) (by decide), if_neg p3, if_neg p4]
    · show m_rmaker_B8 S (nI r) obj (nI n) = _
      unfold m_rmaker_B8
      rw [hn, if_pos (Int32.le_refl _)]
  unfold m_rmaker m_rmaker_J0
  by_cases h0 : obj = 0
  · rw [if_pos h0, if_pos h0]
  · rw [if_neg h0, if_neg h0, hl]
    cases firstTo (rMk S r obj) n <;> rfl
