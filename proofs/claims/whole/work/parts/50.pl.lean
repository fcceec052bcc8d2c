/-! PURE TOOLS for printed functions: places, loops as runs of states, counting. -/
theorem cl_nI {j : Nat} (h : j < 2 ^ 31) : (nI j).toNatClampNeg = j := nI_clamp h
theorem gd_ok {τ : Type} {j n : Nat} {k : Option τ} (h : j < n) (hn : n ≤ 2 ^ 31) : gd (nI j) n k = k := by
  unfold gd
  rw [if_neg (nI_pos (by omega)), if_neg (by rw [nI_clamp (by omega)]; omega)]
/-- a loop that runs through the states f 0, f 1, .., f n and ends there -/
theorem lp_iter {α ε : Type} {body : α → Option (α ⊕ ε)} (f : Nat → α) (n : Nat) (e : ε) (hs : ∀ i, i < n → body (f i) = some (.inl (f (i + 1)))) (he : body (f n) = some (.inr e)) : ∀ m, n < m → lp body m (f 0) = some e := by
  have key : ∀ d i m, i + d = n → d < m → lp body m (f i) = some e := by
    intro d
    induction d with
    | zero =>
      intro i m hi hm
      obtain rfl : i = n := by omega
      obtain ⟨m', rfl⟩ : ∃ m', m = m' + 1 := ⟨m - 1, by omega⟩
      rw [lp, he]
    | succ d ih =>
      intro i m hi hm
      obtain ⟨m', rfl⟩ : ∃ m', m = m' + 1 := ⟨m - 1, by omega⟩
      rw [lp, hs i (by omega)]
      exact ih (i + 1) m' (by omega) (by omega)
  intro m hm
  exact key n 0 m (by omega) hm
/-- a loop with an invariant and a number that falls -/
theorem lp_ex {α ε : Type} {body : α → Option (α ⊕ ε)} {I : α → Prop} {μ : α → Nat} {P : ε → Prop} (h : ∀ a, I a → (∃ a', body a = some (.inl a') ∧ I a' ∧ μ a' < μ a) ∨ (∃ e, body a = some (.inr e) ∧ P e)) : ∀ n a, I a → μ a < n → ∃ e, lp body n a = some e ∧ P e := by
  intro n
  induction n with
  | zero => intro a _ h; omega
  | succ n ih =>
    intro a ha hm
    rcases h a ha with ⟨a', h1, h2, h3⟩ | ⟨e, h1, h2⟩
    · obtain ⟨e, h4, h5⟩ := ih a' h2 (by omega)
      exact ⟨e, by rw [lp, h1]; exact h4, h5⟩
    · exact ⟨e, by rw [lp, h1], h2⟩
theorem fu_gt {n : Nat} (h : n < 1000000) : n < FU := h
/-- how many below n -/
def cntTo (p : Nat → Bool) : Nat → Nat
  | 0 => 0
  | n + 1 => cntTo p n + (if p n then 1 else 0)
theorem cntTo_le (p : Nat → Bool) (n : Nat) : cntTo p n ≤ n := by
  induction n with
  | zero => exact Nat.le_refl _
  | succ n ih => rw [cntTo]; split <;> omega
theorem nI_s (n : Nat) : nI n + 1 = nI (n + 1) := nI_add n 1
theorem nle {i n : Nat} (h : i < n) (hn : n < 2 ^ 31) : ¬ nI n ≤ nI i := nI_ge h hn
/-! SMALL METHODS OF THE REFERENCE, what they answer. -/
theorem pr_thrown {S : MS} : m_rthrown S = some (S, S.i 0) := rfl
theorem pr_no {S : MS} {c : Int32} : m_rno S c = some (S.setI 0 c, 0) := rfl
theorem pr_taken {S : MS} : m_rtaken S = some (S.setI 7 0, S.i 7) := rfl
theorem pr_isR {S : MS} {r : Nat} (h : r < 8) : m_risReplica S (nI r) = some (S, 1) := by
  have h1 : ¬ nI r < 0 := nI_pos (by omega)
  have h2 : ¬ (8 : Int32) ≤ nI r := nle (i := r) (n := 8) h (by decide)
  unfold m_risReplica m_risReplica_J0
  rw [if_neg h1, if_neg h2]
  rfl
theorem pr_isN {S : MS} {r : Int32} (h : r < 0 ∨ 8 ≤ r) : m_risReplica S r = some (S, 0) := by
  unfold m_risReplica m_risReplica_J0
  by_cases h1 : r < 0
  · rw [if_pos h1]; rfl
  · rw [if_neg h1, if_pos (h.resolve_left h1)]; rfl
/-- an OPEN OP of r -/
def opnR (S : MS) (r : Int32) (o : Nat) : Bool := decide (S.a 21 o = 0) && (!decide (0 ≤ S.a 13 o)) && decide (S.a 12 o = r)
theorem pr_open {S : MS} {r : Int32} {n : Nat} (hn : S.i 23 = nI n) (h : n ≤ 4000) : m_ropen S r = some (S, nI (cntTo (opnR S r) n)) := by
  have hs : ∀ i, i < n → m_ropen_B4 S r (nI (cntTo (opnR S r) i)) (nI i) = some (.inl (S, r, nI (cntTo (opnR S r) (i + 1)), nI (i + 1))) := by
    intro i hi
    unfold m_ropen_B4
    rw [hn, if_neg (nle hi (by omega)), gd_ok (by omega) (by decide), gd_ok (by omega) (by decide), gd_ok (by omega) (by decide), cl_nI (by omega)]
    unfold m_ropen_J43
    simp only [nI_s, cntTo, opnR]
    by_cases h1 : S.a 21 i = 0
    · by_cases h2 : 0 ≤ S.a 13 i
      · simp [h1, h2]
      · by_cases h3 : S.a 12 i = r
        · simp [h1, h2, h3]
        · simp [h1, h2, h3]
    · simp [h1]
  have he : m_ropen_B4 S r (nI (cntTo (opnR S r) n)) (nI n) = some (.inr (S, nI (cntTo (opnR S r) n))) := by
    unfold m_ropen_B4
    rw [hn, if_pos (Int32.le_refl _)]
  have hl : m_ropen_L4 S r 0 0 = some (S, nI (cntTo (opnR S r) n)) := lp_iter (body := fun a : MS × Int32 × Int32 × Int32 => m_ropen_B4 a.1 a.2.1 a.2.2.1 a.2.2.2) (fun i => (S, r, nI (cntTo (opnR S r) i), nI i)) n (S, nI (cntTo (opnR S r) n)) hs he FU (fu_gt (by omega))
  unfold m_ropen m_ropen_J0
  rw [hl]
  rfl
