/-! TEXT: numbers. -/
theorem lg_ge {x y : Int64} : (0 ≤ lg_cmp x y) ↔ y.toInt ≤ x.toInt := by
  unfold lg_cmp
  by_cases c1 : x > y
  · have h : y < x := c1
    rw [if_pos c1]
    rw [Int64.lt_iff_toInt_lt] at h
    exact ⟨fun _ => by omega, fun _ => by decide⟩
  · have h : ¬ y < x := c1
    rw [if_neg c1]
    rw [Int64.lt_iff_toInt_lt] at h
    by_cases c2 : x = y
    · rw [if_pos c2, c2]; exact ⟨fun _ => Int.le_refl _, fun _ => by decide⟩
    · rw [if_neg c2]
      have : x.toInt ≠ y.toInt := fun e => c2 (Int64.toInt_inj.mp e)
      exact ⟨fun h => absurd h (by decide), fun _ => by omega⟩
theorem lg_gt {x y : Int64} : (0 < lg_cmp x y) ↔ y.toInt < x.toInt := by
  unfold lg_cmp
  by_cases c1 : x > y
  · have h : y < x := c1
    rw [if_pos c1]
    rw [Int64.lt_iff_toInt_lt] at h
    exact ⟨fun _ => h, fun _ => by decide⟩
  · have h : ¬ y < x := c1
    rw [if_neg c1]
    rw [Int64.lt_iff_toInt_lt] at h
    refine ⟨fun h2 => ?_, fun h2 => absurd h2 h⟩
    exfalso
    revert h2
    split <;> decide
theorem lg_lez {x y : Int64} : (lg_cmp x y ≤ 0) ↔ x.toInt ≤ y.toInt := by
  rw [← Int32.not_lt, lg_gt]
  omega
/-- numbers that fit -/
theorem i64_ofInt {v : Int} (h1 : - 2 ^ 63 ≤ v) (h2 : v < 2 ^ 63) : (Int64.ofInt v).toInt = v := by
  exact Int64.toInt_ofInt_of_le h1 h2
theorem i64_mul {x y : Int64} (h1 : - 2 ^ 63 ≤ x.toInt * y.toInt) (h2 : x.toInt * y.toInt < 2 ^ 63) : (x * y).toInt = x.toInt * y.toInt := by
  rw [Int64.toInt_mul, Int.bmod_eq_of_le (by omega) (by omega)]
theorem i64_sub {x y : Int64} (h1 : - 2 ^ 63 ≤ x.toInt - y.toInt) (h2 : x.toInt - y.toInt < 2 ^ 63) : (x - y).toInt = x.toInt - y.toInt := by
  rw [Int64.toInt_sub, Int.bmod_eq_of_le (by omega) (by omega)]
theorem i64_div {x y : Int64} (h1 : - 2 ^ 63 ≤ x.toInt.tdiv y.toInt) (h2 : x.toInt.tdiv y.toInt < 2 ^ 63) : (x / y).toInt = x.toInt.tdiv y.toInt := by
  rw [Int64.toInt_div, Int.bmod_eq_of_le (by omega) (by omega)]
def U (k : Nat) : Int64 := Int64.ofInt (10 ^ k : Nat)
theorem p10 {k : Nat} (h : k ≤ 18) : (10 : Nat) ^ k ≤ 10 ^ 18 := Nat.pow_le_pow_right (by omega) h
theorem U_int {k : Nat} (h : k ≤ 18) : (U k).toInt = ((10 ^ k : Nat) : Int) := by
  have := p10 h
  unfold U
  generalize (10 : Nat) ^ k = P at this ⊢
  exact i64_ofInt (by omega) (by omega)
theorem t10 : (10 : Int64).toInt = 10 := by decide
theorem U_mul {k : Nat} (h : k + 1 ≤ 18) : U k * 10 = U (k + 1) := by
  apply Int64.toInt_inj.mp
  have h1 := p10 h
  have h2 : (10 : Nat) ^ (k + 1) = 10 ^ k * 10 := Nat.pow_succ ..
  rw [i64_mul (by rw [U_int (by omega), t10]; omega) (by rw [U_int (by omega), t10]; omega), U_int (by omega), U_int h, t10]
  omega
theorem U_div {k : Nat} (h : k + 1 ≤ 18) : U (k + 1) / 10 = U k := by
  apply Int64.toInt_inj.mp
  have h1 := p10 h
  have h2 : (10 : Nat) ^ (k + 1) = 10 ^ k * 10 := Nat.pow_succ ..
  have e : (((10 ^ (k + 1) : Nat) : Int)).tdiv 10 = ((10 ^ k : Nat) : Int) := by
    rw [Int.tdiv_eq_ediv_of_nonneg (by omega)]
    omega
  rw [i64_div (by rw [U_int h, t10, e]; omega) (by rw [U_int h, t10, e]; omega), U_int h, U_int (by omega), t10, e]
theorem U_0 : U 0 = 1 := by decide
theorem U_0d : U 0 / 10 = 0 := by decide
theorem U_ne {k : Nat} (h : k ≤ 18) : U k ≠ 0 := by
  intro e
  have h1 := U_int h
  rw [e] at h1
  have h2 : (0 : Int64).toInt = 0 := by decide
  rw [h2] at h1
  have : 0 < 10 ^ k := Nat.pow_pos (by omega)
  omega
/-- how many digits but one -/
def dK (a : Nat) : Nat := cntTo (fun j => decide (10 ≤ a / 10 ^ j)) 19
theorem dK_spec {a : Nat} (ha : a < 10 ^ 19) : dK a ≤ 18 ∧ a / 10 ^ (dK a) < 10 ∧ ∀ j, j < dK a → 10 ≤ a / 10 ^ j := by
  have ex : ∀ k, (∀ j, j < k → 10 ≤ a / 10 ^ j) ∨ ∃ K, K < k ∧ a / 10 ^ K < 10 ∧ ∀ j, j < K → 10 ≤ a / 10 ^ j := by
    intro k
    induction k with
    | zero => exact Or.inl (fun j h => by omega)
    | succ k ih =>
      rcases ih with h | ⟨K, h1, h2⟩
      · by_cases e : 10 ≤ a / 10 ^ k
        · left
          intro j hj
          by_cases e2 : j = k
          · rw [e2]; exact e
          · exact h j (by omega)
        · exact Or.inr ⟨k, by omega, by omega, h⟩
      · exact Or.inr ⟨K, by omega, h2⟩
  rcases ex 19 with h | ⟨K, h1, h2, h3⟩
  · exfalso
    have := h 18 (by omega)
    have h4 : a / 10 ^ 18 < 10 := by
      rw [Nat.div_lt_iff_lt_mul (Nat.pow_pos (by omega))]
      omega
    omega
  · have hK : dK a = K := by
      unfold dK
      have hp : ∀ j, decide (10 ≤ a / 10 ^ j) = decide (j < K) := by
        intro j
        by_cases e : j < K
        · rw [decide_eq_true e, decide_eq_true (h3 j e)]
        · rw [decide_eq_false e, decide_eq_false]
          have hmono : a / 10 ^ j ≤ a / 10 ^ K := Nat.div_le_div_left (Nat.pow_le_pow_right (by omega) (by omega)) (Nat.pow_pos (by omega))
          omega
      rw [cntTo_congr (fun j _ => hp j)]
      have : ∀ n, cntTo (fun j => decide (j < K)) n = min K n := by
        intro n
        induction n with
        | zero => simp [cntTo]
        | succ n ih =>
          rw [cntTo_s, ih]
          by_cases e : n < K
          · rw [if_pos (decide_eq_true e)]; omega
          · rw [if_neg (by simp [e])]; omega
      rw [this]
      omega
    rw [hK]
    exact ⟨by omega, h2, h3⟩
def dgs (a : Nat) : Nat → List Nat
  | 0 => [48 + a % 10]
  | k + 1 => (48 + a / 10 ^ (k + 1) % 10) :: dgs a k
/-- a number's text -/
def numT (n : Int64) : List Nat := (if n.toInt < 0 then [45] else []) ++ dgs n.toInt.natAbs (dK n.toInt.natAbs)
theorem dgs_len {a : Nat} : ∀ k, (dgs a k).length = k + 1 := by
  intro k
  induction k with
  | zero => rfl
  | succ k ih => rw [dgs, List.length_cons, ih]
theorem i64_rng (n : Int64) : - 2 ^ 63 ≤ n.toInt ∧ n.toInt < 2 ^ 63 := ⟨Int64.le_toInt n, Int64.toInt_lt n⟩
theorem abs_lt (n : Int64) : n.toInt.natAbs < 10 ^ 19 := by
  have := i64_rng n
  omega
/-- quotient by a unit -/
theorem q_int {n : Int64} {k : Nat} (hk : k ≤ 18) : (n / U k).toInt = if n.toInt < 0 then -((n.toInt.natAbs / 10 ^ k : Nat) : Int) else ((n.toInt.natAbs / 10 ^ k : Nat) : Int) := by
  have hr := i64_rng n
  have hp : 0 < 10 ^ k := Nat.pow_pos (by omega)
  have hdl : n.toInt.natAbs / 10 ^ k ≤ n.toInt.natAbs := Nat.div_le_self _ _
  have e : n.toInt.tdiv ((10 ^ k : Nat) : Int) = if n.toInt < 0 then -((n.toInt.natAbs / 10 ^ k : Nat) : Int) else ((n.toInt.natAbs / 10 ^ k : Nat) : Int) := by
    by_cases c : n.toInt < 0
    · rw [if_pos c]
      have h1 : n.toInt = -((n.toInt.natAbs : Nat) : Int) := by omega
      rw [show n.toInt.tdiv ((10 ^ k : Nat) : Int) = (-((n.toInt.natAbs : Nat) : Int)).tdiv ((10 ^ k : Nat) : Int) by rw [← h1], Int.neg_tdiv, Int.ofNat_tdiv]
    · rw [if_neg c]
      have h1 : n.toInt = ((n.toInt.natAbs : Nat) : Int) := by omega
      rw [show n.toInt.tdiv ((10 ^ k : Nat) : Int) = (((n.toInt.natAbs : Nat) : Int)).tdiv ((10 ^ k : Nat) : Int) by rw [← h1], Int.ofNat_tdiv]
  generalize n.toInt.natAbs / 10 ^ k = Q at hdl e ⊢
  rw [i64_div, U_int hk, e]
  · rw [U_int hk, e]; split <;> omega
  · rw [U_int hk, e]; split <;> omega
theorem rem_int {q : Int64} {b : Nat} (h : q.toInt = (b : Int) ∨ q.toInt = -(b : Int)) : (q - q / 10 * 10).toInt = if q.toInt = (b : Int) then ((b % 10 : Nat) : Int) else -((b % 10 : Nat) : Int) := by
  have hr := i64_rng q
  have e : q.toInt.tdiv 10 = if q.toInt = (b : Int) then ((b / 10 : Nat) : Int) else -((b / 10 : Nat) : Int) := by
    by_cases c : q.toInt = (b : Int)
    · rw [if_pos c, c]
      rfl
    · rw [if_neg c, h.resolve_left c, Int.neg_tdiv]
      congr 1
  have e1 : (q / 10).toInt = q.toInt.tdiv 10 := by
    rw [i64_div, t10]
    · rw [t10, e]; split <;> omega
    · rw [t10, e]; split <;> omega
  have e2 : (q / 10 * 10).toInt = q.toInt.tdiv 10 * 10 := by
    rw [i64_mul, e1, t10]
    · rw [e1, t10, e]; split <;> omega
    · rw [e1, t10, e]; split <;> omega
  rw [i64_sub, e2, e]
  · split <;> omega
  · rw [e2, e]; split <;> omega
  · rw [e2, e]; split <;> omega
theorem dig32 {x : Int64} {d : Nat} (hd : d < 10) (h : x.toInt = (d : Int)) : x.toInt32 = nI d := by
  apply Int32.toInt_inj.mp
  rw [Int64.toInt_toInt32, h, nI_int (by omega), Int.bmod_eq_of_le (by omega) (by omega)]
theorem dig32n {x : Int64} {d : Nat} (hd : d < 10) (h : x.toInt = -(d : Int)) : (48 : Int32) - x.toInt32 = nI (48 + d) := by
  apply Int32.toInt_inj.mp
  have e : (x.toInt32).toInt = -(d : Int) := by rw [Int64.toInt_toInt32, h, Int.bmod_eq_of_le (by omega) (by omega)]
  have e48 : (48 : Int32).toInt = 48 := by decide
  rw [Int32.toInt_sub, e, e48, nI_int (by omega), Int.bmod_eq_of_le (by omega) (by omega)]
  omega
