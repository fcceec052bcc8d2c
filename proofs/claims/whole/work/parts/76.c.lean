/-! COUNTING. -/
theorem cntTo_s (p : Nat → Bool) (n : Nat) : cntTo p (n + 1) = cntTo p n + (if p n then 1 else 0) := rfl
theorem cntTo_mono {p q : Nat → Bool} : ∀ {n : Nat}, (∀ i, i < n → p i = true → q i = true) → cntTo p n ≤ cntTo q n := by
  intro n
  induction n with
  | zero => intro _; exact Nat.le_refl _
  | succ n ih =>
    intro h
    rw [cntTo_s, cntTo_s]
    have h1 := ih (fun i hi => h i (by omega))
    have h2 := h n (by omega)
    by_cases e : p n = true
    · rw [if_pos e, if_pos (h2 e)]; omega
    · rw [if_neg e]; split <;> omega
theorem cntTo_none {p : Nat → Bool} : ∀ {n : Nat}, (∀ i, i < n → p i = false) → cntTo p n = 0 := by
  intro n
  induction n with
  | zero => intro _; rfl
  | succ n ih =>
    intro h
    rw [cntTo_s, ih (fun i hi => h i (by omega)), h n (by omega)]
    rfl
theorem cntTo_all : ∀ (n : Nat), cntTo (fun _ => true) n = n := by
  intro n
  induction n with
  | zero => rfl
  | succ n ih => rw [cntTo_s, ih]; rfl
/-- one is taken out -/
theorem cntTo_rm {p : Nat → Bool} {k : Nat} : ∀ {n : Nat}, k < n → p k = true → cntTo p n = cntTo (fun i => p i && !decide (i = k)) n + 1 := by
  intro n
  induction n with
  | zero => intro h _; omega
  | succ n ih =>
    intro h hp
    rw [cntTo_s, cntTo_s]
    by_cases e : k = n
    · subst e
      rw [if_pos hp, if_neg (by simp)]
      congr 1
      refine cntTo_congr (fun i hi => ?_)
      rw [show decide (i = k) = false from decide_eq_false (by omega)]
      simp
    · rw [ih (by omega) hp]
      rw [show decide (n = k) = false from decide_eq_false (by omega)]
      simp only [Bool.not_false, Bool.and_true]
      omega
/-- one is put in -/
theorem cntTo_add {p q : Nat → Bool} {k n : Nat} (hk : k < n) (h0 : p k = false) (h1 : q k = true) (h : ∀ i, i < n → i ≠ k → q i = p i) : cntTo q n = cntTo p n + 1 := by
  rw [cntTo_rm hk h1]
  congr 1
  refine cntTo_congr (fun i hi => ?_)
  by_cases e : i = k
  · subst e; rw [h0]; simp
  · rw [h i hi e, show decide (i = k) = false from decide_eq_false e]; simp
theorem cnt_inj {p : Nat → Bool} {m : Nat} (f : Nat → Nat) : ∀ {n : Nat} {q : Nat → Bool}, (∀ i, i < n → p i = true → f i < m ∧ q (f i) = true) → (∀ i j, i < n → j < n → p i = true → p j = true → f i = f j → i = j) → cntTo p n ≤ cntTo q m := by
  intro n
  induction n with
  | zero => intro q _ _; exact Nat.zero_le _
  | succ n ih =>
    intro q h1 h2
    rw [cntTo_s]
    by_cases e : p n = true
    · obtain ⟨g1, g2⟩ := h1 n (by omega) e
      rw [if_pos e, cntTo_rm g1 g2]
      have := ih (q := fun i => q i && !decide (i = f n)) (fun i hi hp => ?_) (fun i j hi hj => h2 i j (by omega) (by omega))
      · omega
      · obtain ⟨g3, g4⟩ := h1 i (by omega) hp
        refine ⟨g3, ?_⟩
        have hne : f i ≠ f n := fun he => by have := h2 i n (by omega) (by omega) hp e he; omega
        simp [g4, hne]
    · rw [if_neg e]
      exact ih (fun i hi => h1 i (by omega)) (fun i j hi hj => h2 i j (by omega) (by omega))
def sumTo (g : Nat → Nat) : Nat → Nat
  | 0 => 0
  | n + 1 => sumTo g n + g n
theorem sumTo_congr {g h : Nat → Nat} : ∀ {n : Nat}, (∀ i, i < n → g i = h i) → sumTo g n = sumTo h n := by
  intro n
  induction n with
  | zero => intro _; rfl
  | succ n ih => intro e; rw [sumTo, sumTo, ih (fun i hi => e i (by omega)), e n (by omega)]
theorem sumTo_add {g h : Nat → Nat} : ∀ {n : Nat}, sumTo (fun i => g i + h i) n = sumTo g n + sumTo h n := by
  intro n
  induction n with
  | zero => rfl
  | succ n ih => rw [sumTo, sumTo, sumTo, ih]; omega
theorem sumTo_one {k : Nat} : ∀ {n : Nat}, sumTo (fun i => if i = k then 1 else 0) n = if k < n then 1 else 0 := by
  intro n
  induction n with
  | zero => rfl
  | succ n ih =>
    rw [sumTo, ih]
    by_cases e : k < n
    · rw [if_pos e, if_neg (by omega), if_pos (by omega)]
    · rw [if_neg e]
      by_cases e2 : n = k
      · rw [if_pos e2, if_pos (by omega)]
      · rw [if_neg e2, if_neg (by omega)]
theorem sumTo_zero : ∀ {n : Nat}, sumTo (fun _ => 0) n = 0 := by
  intro n
  induction n with
  | zero => rfl
  | succ n ih => rw [sumTo, ih]
/-- counted by what they belong to -/
theorem cnt_split {p : Nat → Bool} {g : Nat → Nat} {k : Nat} : ∀ {n : Nat}, (∀ i, i < n → g i < k) → cntTo p n = sumTo (fun a => cntTo (fun i => p i && decide (g i = a)) n) k := by
  intro n
  induction n with
  | zero => intro _; exact sumTo_zero.symm
  | succ n ih =>
    intro h
    rw [cntTo_s, ih (fun i hi => h i (by omega))]
    have hk := h n (by omega)
    rw [show sumTo (fun a => cntTo (fun i => p i && decide (g i = a)) (n + 1)) k = sumTo (fun a => cntTo (fun i => p i && decide (g i = a)) n) k + sumTo (fun a => if (p n && decide (g n = a)) = true then 1 else 0) k from by rw [← sumTo_add]; rfl]
    congr 1
    by_cases e : p n = true
    · rw [if_pos e]
      rw [show sumTo (fun a => if (p n && decide (g n = a)) = true then 1 else 0) k = sumTo (fun a => if a = g n then 1 else 0) k from sumTo_congr (fun i _ => by rw [e]; simp [eq_comm])]
      rw [sumTo_one, if_pos hk]
    · rw [if_neg e]
      rw [show sumTo (fun a => if (p n && decide (g n = a)) = true then 1 else 0) k = sumTo (fun _ => 0) k from sumTo_congr (fun i _ => by simp [e])]
      exact sumTo_zero.symm
section CNT
variable {A : AS}
/-- an actor's changes up to its number K -/
theorem cnt_clock (hA : AI A) {a K : Nat} (hK : K ≤ A.hv a a) : cntTo (fun c => decide (A.cu c ≤ K) && decide (A.ca c = a)) A.m = K := by
  have hC := hA.2.1
  apply Nat.le_antisymm
  · have := cnt_inj (p := fun c => decide (A.cu c ≤ K) && decide (A.ca c = a)) (m := K) (fun c => A.cu c - 1) (n := A.m) (q := fun _ => true) ?_ ?_
    · rw [cntTo_all] at this; exact this
    · intro c hc hp
      simp only [Bool.and_eq_true, decide_eq_true_eq] at hp
      have := (hC.1 c hc).2.1
      exact ⟨by omega, rfl⟩
    · intro c d hc hd hp hq he
      simp only [Bool.and_eq_true, decide_eq_true_eq] at hp hq
      have h1 := (hC.1 c hc).2.1
      have h2 := (hC.1 d hd).2.1
      exact cu_inj hC.2.1 hc hd (by omega) (by omega)
  · have ex : ∀ k, ∃ c, k < K → c < A.m ∧ A.ca c = a ∧ A.cu c = k + 1 := by
      intro k
      by_cases h : k < K
      · obtain ⟨c, h1, h2, h3⟩ := hC.2.2.1 a (k + 1) (by omega) (by omega)
        exact ⟨c, fun _ => ⟨h1, h2, h3⟩⟩
      · exact ⟨0, fun h2 => absurd h2 h⟩
    have := cnt_inj (p := fun _ => true) (m := A.m) (fun k => Classical.choose (ex k)) (n := K) (q := fun c => decide (A.cu c ≤ K) && decide (A.ca c = a)) ?_ ?_
    · rw [cntTo_all] at this; exact this
    · intro k hk _
      obtain ⟨h1, h2, h3⟩ := Classical.choose_spec (ex k) hk
      refine ⟨h1, ?_⟩
      simp only [Bool.and_eq_true, decide_eq_true_eq]
      exact ⟨by omega, h2⟩
    · intro k l hk hl _ _ he
      obtain ⟨_, _, h3⟩ := Classical.choose_spec (ex k) hk
      obtain ⟨_, _, h4⟩ := Classical.choose_spec (ex l) hl
      have he : Classical.choose (ex k) = Classical.choose (ex l) := he
      rw [he] at h3
      omega
/-- the changes below a clock, together -/
theorem cnt_clocks (hA : AI A) {K : Nat → Nat} (hK : ∀ a, K a ≤ A.hv a a) : cntTo (fun c => decide (A.cu c ≤ K (A.ca c))) A.m = sumTo K 8 := by
  rw [cnt_split (g := A.ca) (k := 8) (fun c hc => (hA.2.1.1 c hc).1)]
  refine sumTo_congr (fun a ha => ?_)
  rw [← cnt_clock hA (hK a)]
  refine cntTo_congr (fun c hc => ?_)
  by_cases e : A.ca c = a
  · rw [e]
  · simp [e]
/-- open ops -/
theorem cnt_open (hA : AI A) {r : Nat} (hr : r < 8) : cntTo (fun o => decide (A.gone o = 0) && decide (A.chg o = none) && decide (A.own o = r)) A.n = A.on r := by
  have hT := hA.2.2.2.1
  have hop := hA.2.2.1.1
  have hon := hT.1 r
  apply Nat.le_antisymm
  · have := cnt_inj (p := fun o => decide (A.gone o = 0) && decide (A.chg o = none) && decide (A.own o = r)) (m := A.on r) (fun o => A.id o / 8 - (A.tp r - A.on r) - 1) (n := A.n) (q := fun _ => true) ?_ ?_
    · rw [cntTo_all] at this; exact this
    · intro o ho hp
      simp only [Bool.and_eq_true, decide_eq_true_eq] at hp
      have := hT.2.1 o ho hp.1.1 hp.1.2
      rw [hp.2] at this
      exact ⟨by omega, rfl⟩
    · intro o q ho hq hp hp2 he
      simp only [Bool.and_eq_true, decide_eq_true_eq] at hp hp2
      have h1 := hT.2.1 o ho hp.1.1 hp.1.2
      have h2 := hT.2.1 q hq hp2.1.1 hp2.1.2
      rw [hp.2] at h1
      rw [hp2.2] at h2
      have h3 := hop o ho
      have h4 := hop q hq
      exact hA.2.2.1.2.1 o q ho hq hp.1.1 hp2.1.1 (by omega)
  · have ex : ∀ k, ∃ o, k < A.on r → o < A.n ∧ A.gone o = 0 ∧ A.chg o = none ∧ A.own o = r ∧ A.id o / 8 = A.tp r - A.on r + 1 + k := by
      intro k
      by_cases h : k < A.on r
      · obtain ⟨o, h1, h2, h3, h4, h5⟩ := hT.2.2.1 r (A.tp r - A.on r + 1 + k) hr (by omega) (by omega)
        exact ⟨o, fun _ => ⟨h1, h2, h3, h4, h5⟩⟩
      · exact ⟨0, fun h2 => absurd h2 h⟩
    have := cnt_inj (p := fun _ => true) (m := A.n) (fun k => Classical.choose (ex k)) (n := A.on r) (q := fun o => decide (A.gone o = 0) && decide (A.chg o = none) && decide (A.own o = r)) ?_ ?_
    · rw [cntTo_all] at this; exact this
    · intro k hk _
      obtain ⟨h1, h2, h3, h4, h5⟩ := Classical.choose_spec (ex k) hk
      refine ⟨h1, ?_⟩
      simp only [Bool.and_eq_true, decide_eq_true_eq]
      exact ⟨⟨h2, h3⟩, h4⟩
    · intro k l hk hl _ _ he
      obtain ⟨_, _, _, _, h3⟩ := Classical.choose_spec (ex k) hk
      obtain ⟨_, _, _, _, h4⟩ := Classical.choose_spec (ex l) hl
      have he : Classical.choose (ex k) = Classical.choose (ex l) := he
      rw [he] at h3
      omega
end CNT
