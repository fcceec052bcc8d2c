/-! TOOLS for the pure part: reading through writes, loops with an invariant, numbers. -/
theorem MS.i_setI (S : MS) (k j : Nat) (v : Int32) : (S.setI k v).i j = if j = k then v else S.i j := id rfl
theorem MS.a_setI (S : MS) (k : Nat) (v : Int32) : (S.setI k v).a = S.a := id rfl
theorem MS.n_setI (S : MS) (k : Nat) (v : Int32) : (S.setI k v).n = S.n := id rfl
theorem MS.i_setA (S : MS) (k : Nat) (f : Nat → Int32) : (S.setA k f).i = S.i := id rfl
theorem MS.a_setA (S : MS) (k j : Nat) (f : Nat → Int32) : (S.setA k f).a j = if j = k then f else S.a j := id rfl
theorem MS.n_setA (S : MS) (k : Nat) (f : Nat → Int32) : (S.setA k f).n = S.n := id rfl
theorem MS.i_setN (S : MS) (k : Nat) (f : Nat → Int64) : (S.setN k f).i = S.i := id rfl
theorem MS.a_setN (S : MS) (k : Nat) (f : Nat → Int64) : (S.setN k f).a = S.a := id rfl
theorem MS.n_setN (S : MS) (k j : Nat) (f : Nat → Int64) : (S.setN k f).n j = if j = k then f else S.n j := id rfl
theorem MS.setA_setA (S : MS) (k : Nat) (f g : Nat → Int32) : (S.setA k f).setA k g = S.setA k g := by
  unfold MS.setA MS.i MS.a MS.n
  simp only
  congr 2
  funext j
  by_cases h : j = k <;> simp [h]
theorem MS.setI_setI (S : MS) (k : Nat) (f g : Int32) : (S.setI k f).setI k g = S.setI k g := by
  unfold MS.setI MS.i MS.a MS.n
  simp only
  congr 1
  funext j
  by_cases h : j = k <;> simp [h]
theorem MS.setA_self (S : MS) (k : Nat) : S.setA k (S.a k) = S := by
  obtain ⟨a, b, c⟩ := S
  unfold MS.setA MS.i MS.a MS.n
  simp only
  congr 2
  funext j
  by_cases h : j = k <;> simp [h]
theorem MS.setI_self (S : MS) (k : Nat) : S.setI k (S.i k) = S := by
  obtain ⟨a, b, c⟩ := S
  unfold MS.setI MS.i MS.a MS.n
  simp only
  congr 1
  funext j
  by_cases h : j = k <;> simp [h]
theorem MS.setI_setA (S : MS) (j k : Nat) (v : Int32) (f : Nat → Int32) : (S.setI j v).setA k f = (S.setA k f).setI j v := rfl
theorem MS.setA_comm (S : MS) {j k : Nat} (f g : Nat → Int32) (h : j ≠ k) : (S.setA j f).setA k g = (S.setA k g).setA j f := by
  unfold MS.setA MS.i MS.a MS.n
  simp only
  congr 2
  funext x
  by_cases h1 : x = k
  · subst h1; simp [Ne.symm h]
  · simp [h1]
/-- a loop: after i rounds I i holds; at most n rounds -/
theorem lp_run {α ε : Type} {body : α → Option (α ⊕ ε)} (I : Nat → α → Prop) (P : ε → Prop) (n : Nat)
    (h : ∀ i a, i ≤ n → I i a → (∃ a', body a = some (.inl a') ∧ i < n ∧ I (i + 1) a') ∨ (∃ e, body a = some (.inr e) ∧ P e)) :
    ∀ m a, n < m → I 0 a → ∃ e, lp body m a = some e ∧ P e := by
  have key : ∀ d i m a, i + d = n → d < m → I i a → ∃ e, lp body m a = some e ∧ P e := by
    intro d
    induction d with
    | zero =>
      intro i m a hi hm ha
      obtain ⟨m', rfl⟩ : ∃ m', m = m' + 1 := ⟨m - 1, by omega⟩
      rcases h i a (by omega) ha with ⟨a', _, hlt, _⟩ | ⟨e, h1, h2⟩
      · omega
      · exact ⟨e, by rw [lp, h1], h2⟩
    | succ d ih =>
      intro i m a hi hm ha
      obtain ⟨m', rfl⟩ : ∃ m', m = m' + 1 := ⟨m - 1, by omega⟩
      rcases h i a (by omega) ha with ⟨a', h1, _, h3⟩ | ⟨e, h1, h2⟩
      · obtain ⟨e, h4, h5⟩ := ih (i + 1) m' a' (by omega) (by omega) h3
        exact ⟨e, by rw [lp, h1]; exact h4, h5⟩
      · exact ⟨e, by rw [lp, h1], h2⟩
  intro m a hm ha
  exact key n 0 m a (by omega) hm ha
theorem q0 : (0 : Int32) = nI 0 := by decide
theorem q1 : (1 : Int32) = nI 1 := by decide
theorem q2 : (2 : Int32) = nI 2 := by decide
theorem q3 : (3 : Int32) = nI 3 := by decide
theorem q4 : (4 : Int32) = nI 4 := by decide
theorem q5 : (5 : Int32) = nI 5 := by decide
theorem q6 : (6 : Int32) = nI 6 := by decide
theorem q7 : (7 : Int32) = nI 7 := by decide
theorem q8 : (8 : Int32) = nI 8 := by decide
theorem q9 : (9 : Int32) = nI 9 := by decide
theorem q10 : (10 : Int32) = nI 10 := by decide
theorem nar_b0 : vp_nar .boolean (nI 0) = 0 := by decide
theorem nar_b1 : vp_nar .boolean (nI 1) = 1 := by decide
theorem b2_0 {b : Bool} : b2 b = nI 0 ↔ b = false := by cases b <;> decide
theorem b2_1 {b : Bool} : b2 b = nI 1 ↔ b = true := by cases b <;> decide
theorem b2_or (b : Bool) : b2 b = 0 ∨ b2 b = 1 := by cases b <;> decide
theorem b2_nn {b : Bool} : (b2 b = nI 0 ∨ b2 b = nI 1) ↔ True := by cases b <;> decide
theorem b2_t : b2 true = nI 1 := rfl
theorem b2_f : b2 false = nI 0 := rfl
theorem n0_or {p : Prop} : (nI 0 = nI 0 ∨ p) ↔ True := by simp
theorem n1_or {p : Prop} : (p ∨ nI 1 = nI 1) ↔ True := by simp
theorem n10 : (nI 1 = nI 0) ↔ False := by decide
theorem n01 : (nI 0 = nI 1) ↔ False := by decide
theorem ob_ok {α τ : Type} (a : α) (f : α → Option τ) : ob (some a) f = f a := rfl
theorem oe_l {β ρ τ : Type} (b : β) (f : β → Option τ) (g : ρ → Option τ) : oe (some (Sum.inl b)) f g = f b := rfl
theorem oe_r {β ρ τ : Type} (b : ρ) (f : β → Option τ) (g : ρ → Option τ) : oe (some (Sum.inr b)) f g = g b := rfl
theorem take_s {l : List Nat} {i o : Nat} (h : i < l.length) : (l.take (i + 1)).contains o = ((l.take i).contains o || decide (o = l[i])) := by
  rw [Bool.eq_iff_iff]
  simp only [List.contains_iff_mem, Bool.or_eq_true, decide_eq_true_eq, List.take_succ_eq_append_getElem h, List.mem_append, List.mem_singleton]
theorem dec1 (n : Nat) : nI (n + 1) - nI 1 = nI n := nI_pred n
theorem dec2 (n : Nat) : nI n + -nI 1 = nI n - nI 1 := (Int32.sub_eq_add_neg _ _).symm
theorem m1lt : (nI 0 - nI 1 < nI 0) ↔ True := by decide
theorem m1eq : nI 0 - nI 1 = -nI 1 := by decide
theorem m1lt' : (-nI 1 < nI 0) ↔ True := by decide
theorem m1le : (nI 0 ≤ -nI 1) ↔ False := by decide
theorem gB_ok {τ : Type} {k : Nat} {x : Option τ} (h : k = 1 ∨ k = 2 ∨ k = 3 ∨ k = 62) : gB k x = x := if_pos h
theorem ite_self' {c : Prop} [Decidable c] {α : Type} (x : α) : (if c then x else x) = x := by split <;> rfl
