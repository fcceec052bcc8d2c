/-! THE REFERENCE: the greatest counter; a new op. -/
section SM
variable {S : MS} {A : AS}
theorem rs_rB (hR : RS S A) : rB S := by
  intro r c hr hc
  have h1 := (hR.2.2.2.2.2.2.2 r hr).2 c hc
  refine ⟨?_, h1.2.2.1⟩
  rw [h1.1]
  exact b2_or _
theorem rs_rC (hR : RS S A) (hA : AI A) {o : Nat} (ho : o < A.n) : rC S o := by
  intro h1
  have hm := hA.1.2.1
  have hcl : ∀ c, A.chg o = some c → c < 1000 := fun c hc => by have := chg_lt hA ho hc; omega
  have hop := hR.2.1 o ho
  rw [hop.2.2.2.2.2.1] at h1 ⊢
  rw [cI_neg hcl] at h1
  cases hx : A.chg o with
  | none => exact absurd hx h1
  | some c => exact ⟨c, hcl c hx, rfl⟩
/-- r has the op: open and its own, or in a change that it has -/
def AS.owns (A : AS) (r o : Nat) : Bool := decide (A.gone o = 0) && (match A.chg o with
  | none => decide (A.own o = r)
  | some c => A.hasB r c)
theorem rOwn_A (hR : RS S A) (hA : AI A) {r o : Nat} (hr : r < 8) (ho : o < A.n) : rOwn S r o = A.owns r o := by
  have hm := hA.1.2.1
  have hop := hR.2.1 o ho
  have hcl : ∀ c, A.chg o = some c → c < 1000 := fun c hc => by have := chg_lt hA ho hc; omega
  have hg : S.a 21 o = 0 ↔ A.gone o = 0 := by
    rw [hop.2.2.2.2.2.2.2.1]
    exact nI_eq (b := 0) (by have := (hA.2.2.1.1 o ho).2.2.2.2.2.1; omega) (by decide)
  have how : S.a 12 o = nI r ↔ A.own o = r := by
    rw [hop.2.2.2.2.1]
    exact nI_eq (by have := (hA.2.2.1.1 o ho).1; omega) (by omega)
  have hch : 0 ≤ S.a 13 o ↔ A.chg o ≠ none := by rw [hop.2.2.2.2.2.1]; exact cI_neg hcl
  unfold rOwn AS.owns
  simp only [hg]
  congr 1
  cases hx : A.chg o with
  | none =>
    rw [if_neg (by rw [hch, hx]; simp)]
    simp only [how]
  | some c =>
    have hc1 := hcl c hx
    have h13 : S.a 13 o = nI c := by rw [hop.2.2.2.2.2.1, hx]; rfl
    rw [if_pos (by rw [hch, hx]; simp), h13, cl_nI (by omega), ((hR.2.2.2.2.2.2.2 r hr).2 c hc1).1]
    show _ = A.hasB r c
    cases A.hasB r c <;> rfl
theorem owns_le (hA : AI A) {r o : Nat} (ho : o < A.n) (h : A.owns r o = true) : A.id o / 8 ≤ A.tp r := by
  unfold AS.owns at h
  simp only [Bool.and_eq_true, decide_eq_true_eq] at h
  have hT := hA.2.2.2.1
  cases hx : A.chg o with
  | none =>
    rw [hx] at h
    simp only [decide_eq_true_eq] at h
    have := (hT.2.1 o ho h.1 hx).2
    rw [h.2] at this
    exact this
  | some c =>
    rw [hx] at h
    simp only [hasB_iff] at h
    have h1 := hT.2.2.2.2.2.2.1 r c h.2
    have h2 := (hT.2.2.2.2.1 o c ho hx).2
    have h3 := (hT.1 r).1
    omega
theorem tp_owned (hA : AI A) {r : Nat} (hr : r < 8) : A.tp r = 0 ∨ ∃ o, o < A.n ∧ A.owns r o = true ∧ A.id o / 8 = A.tp r := by
  have hT := hA.2.2.2.1
  rcases Nat.eq_zero_or_pos (A.on r) with h0 | h0
  · rcases hT.2.2.2.2.2.2.2 r with h1 | ⟨c, h1, h2⟩
    · left; omega
    · right
      have h3 := hT.2.2.2.1 c h1.1
      obtain ⟨o, h4, h5, h6⟩ := hT.2.2.2.2.2.1 c (A.tp r) h1.1 (by omega) (by omega)
      refine ⟨o, h4, ?_, h6⟩
      have h7 := hA.2.2.1.2.2.1 o h4
      rw [h5] at h7
      unfold AS.owns
      rw [h5]
      simp only [Bool.and_eq_true, decide_eq_true_eq, hasB_iff]
      exact ⟨h7.2.1, h1⟩
  · right
    have h3 := (hT.1 r).1
    obtain ⟨o, h4, h5, h6, h7, h8⟩ := hT.2.2.1 r (A.tp r) hr (by omega) (by omega)
    refine ⟨o, h4, ?_, h8⟩
    unfold AS.owns
    rw [h6]
    simp [h5, h7]
theorem pS_greatest (hR : RS S A) (hA : AI A) {r : Nat} (hr : r < 8) : m_rgreatest S (nI r) = some (S, nI (A.tp r)) := by
  have hn := hA.1.1
  rw [pr_greatest (rs_rB hR) hr hR.1.1 hn (fun o ho => rs_rC hR hA ho)]
  have htp := (hA.2.2.2.1.1 r).2
  have key : ∀ k, k ≤ A.n → ∃ g, grTo S r k = nI g ∧ g ≤ A.tp r ∧ ∀ o, o < k → A.owns r o = true → A.id o / 8 ≤ g := by
    intro k
    induction k with
    | zero => intro _; exact ⟨0, rfl, by omega, fun o h => by omega⟩
    | succ k ih =>
      intro hk
      obtain ⟨g, h1, h2, h3⟩ := ih (by omega)
      have hid := id_lt hA (show k < A.n by omega)
      rw [grTo, rOwn_A hR hA hr (by omega), h1, (hR.2.1 k (by omega)).1, q8, pk_div (by omega) (by omega) (by omega)]
      cases ho : A.owns r k with
      | false =>
        simp only [Bool.false_eq_true, if_false]
        refine ⟨g, rfl, h2, ?_⟩
        intro o ho2 hv
        by_cases e : o = k
        · subst e; rw [ho] at hv; cases hv
        · exact h3 o (by omega) hv
      | true =>
        simp only [if_true]
        have h4 := owns_le hA (show k < A.n by omega) ho
        by_cases c : g < A.id k / 8
        · rw [if_pos (by rw [nI_ltI (by omega) (by omega)]; exact c)]
          refine ⟨_, rfl, h4, ?_⟩
          intro o ho2 hv
          by_cases e : o = k
          · subst e; omega
          · have := h3 o (by omega) hv
            omega
        · rw [if_neg (by rw [nI_ltI (by omega) (by omega)]; exact c)]
          refine ⟨g, rfl, h2, ?_⟩
          intro o ho2 hv
          by_cases e : o = k
          · subst e; omega
          · exact h3 o (by omega) hv
  obtain ⟨g, h1, h2, h3⟩ := key A.n (Nat.le_refl _)
  rw [h1]
  congr 2
  rcases tp_owned hA hr with h | ⟨o, h4, h5, h6⟩
  · congr 1; omega
  · have := h3 o h4 h5
    congr 1
    omega
/-- the new op's place in the order -/
theorem pS_order {od : List Nat} {n : Nat} {f : Nat → Nat} (hn : n < 4000) (hl : od.length = n) (h28 : ∀ i (h : i < od.length), S.a 28 i = nI od[i]) (hod : ∀ o, o ∈ od → o < n) (h8 : ∀ o, o ≤ n → S.a 8 o = nI (f o)) (hf : ∀ o, o ≤ n → f o < 40000) (hs : od.Pairwise (fun a b => f a ≤ f b)) :
    ∃ (i : Nat) (g : Nat → Int32), i ≤ n ∧ m_rmake_L151 S (nI n) (nI n) = some (S.setA 28 g, nI n, nI i) ∧ (∀ k (h : k < od.length), k < i → f od[k] ≤ f n) ∧ (∀ k (h : k < od.length), i ≤ k → f n < f od[k]) ∧
      (∀ k (h : k < od.length), k < i → g k = nI od[k]) ∧ (∀ k (h : k < od.length), i ≤ k → g (k + 1) = nI od[k]) := by
  have := lp_run (body := fun c : MS × Int32 × Int32 => m_rmake_B151 c.1 c.2.1 c.2.2) (fun j c => ∃ (i : Nat) (g : Nat → Int32), j + i = n ∧ c = (S.setA 28 g, nI n, nI i) ∧ (∀ k (h : k < od.length), i ≤ k → f n < f od[k]) ∧ (∀ k (h : k < od.length), k < i → g k = nI od[k]) ∧ (∀ k (h : k < od.length), i ≤ k → g (k + 1) = nI od[k]))
    (fun e => ∃ (i : Nat) (g : Nat → Int32), i ≤ n ∧ e = (S.setA 28 g, nI n, nI i) ∧ (∀ k (h : k < od.length), k < i → f od[k] ≤ f n) ∧ (∀ k (h : k < od.length), i ≤ k → f n < f od[k]) ∧ (∀ k (h : k < od.length), k < i → g k = nI od[k]) ∧ (∀ k (h : k < od.length), i ≤ k → g (k + 1) = nI od[k])) n ?_ FU (S, nI n, nI n) (by unfold FU; omega)
    ⟨n, S.a 28, by omega, by rw [MS.setA_self], fun k h h2 => by omega, fun k h _ => h28 k h, fun k h h2 => by omega⟩
  · obtain ⟨e, h1, i, g, h2, rfl, h3⟩ := this
    exact ⟨i, g, h2, h1, h3⟩
  · rintro j _ hj ⟨i, g, hi, rfl, g1, g2, g3⟩
    unfold m_rmake_B151
    cases i with
    | zero =>
      right
      simp (disch := omega) only [gd_ok, cl_nI, nI_s, nI_add, nI_leI, nI_ltI, nI_eq, if_pos, if_neg, q0, q1, q2, q3, q4, q5, q6, q7, q8, q9, q10, MS.i_setI, MS.a_setI, MS.n_setI, MS.i_setA, MS.a_setA, MS.n_setA, MS.i_setN, MS.a_setN, MS.n_setN, ↓reduceIte, Nat.reduceEqDiff, b2_0, b2_1, b2_nn, n0_or, n1_or, n10, n01, dec1, dec2, ob_ok, oe_l, oe_r]
      exact ⟨_, rfl, 0, g, by omega, rfl, fun k h h2 => by omega, g1, g2, g3⟩
    | succ i =>
      have hil : i < od.length := by omega
      have hoi := hod _ (List.getElem_mem hil)
      have b1 := hf od[i] (by omega)
      have b2 := hf n (by omega)
      simp (disch := omega) only [gd_ok, cl_nI, nI_s, nI_add, nI_leI, nI_ltI, nI_eq, if_pos, if_neg, q0, q1, q2, q3, q4, q5, q6, q7, q8, q9, q10, MS.i_setI, MS.a_setI, MS.n_setI, MS.i_setA, MS.a_setA, MS.n_setA, MS.i_setN, MS.a_setN, MS.n_setN, ↓reduceIte, Nat.reduceEqDiff, b2_0, b2_1, b2_nn, n0_or, n1_or, n10, n01, dec1, dec2, ob_ok, oe_l, oe_r,g2 i hil (by omega), h8 od[i] (by omega), h8 n (by omega)]
      by_cases c : f od[i] ≤ f n
      · rw [if_pos c]
        right
        refine ⟨_, rfl, i + 1, g, by omega, rfl, ?_, g1, g2, g3⟩
        intro k hk hki
        rcases Nat.lt_or_ge k i with h7 | h7
        · have := List.pairwise_iff_getElem.mp hs k i hk hil h7
          omega
        · have : k = i := by omega
          subst this
          exact c
      · rw [if_neg c]
        left
        refine ⟨_, rfl, by omega, i, upd g (i + 1) (nI od[i]), by omega, ?_, ?_, ?_, ?_⟩
        · simp only [MS.setA_setA]
        · intro k hk hki
          rcases Nat.lt_or_ge i k with h7 | h7
          · exact g1 k hk (by omega)
          · have : k = i := by omega
            subst this
            omega
        · intro k hk hki
          unfold upd
          rw [if_neg (by omega)]
          exact g2 k hk (by omega)
        · intro k hk hki
          unfold upd
          by_cases e : k = i
          · subst e; rw [if_pos rfl]
          · rw [if_neg (by omega)]
            exact g3 k hk (by omega)
end SM
