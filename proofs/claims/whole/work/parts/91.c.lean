/-! THE FIRST STATES are those of the empty AS. -/
def A0 : AS := (fun _ => 0, fun _ _ => 0, fun _ _ => none, fun _ _ => [], fun _ => 0, fun _ _ => 0, fun _ _ _ => 0, fun _ _ => false, fun _ _ => false, fun _ => none, fun _ => [], fun _ => [])
theorem nl {o : Nat} {P : Prop} (h : o < 0) : P := absurd h (Nat.not_lt_zero _)
theorem A0_AI : AI A0 := by
  refine ⟨⟨Nat.zero_le _, Nat.zero_le _, Nat.zero_le _, Nat.zero_le _⟩, ⟨fun c hc => nl hc, fun c d hc => nl hc, fun a k h1 h2 => ?_, fun c d hc => nl hc, fun r c hc => nl hc.1, ⟨fun _ _ => Nat.le_refl _, fun c a hc => nl hc, fun _ _ _ => rfl⟩, fun c d hc => nl hc, fun c a hc => nl hc, fun r c hc => ?_, fun r c hc => ?_⟩, ⟨fun o ho => nl ho, fun o p ho => nl ho, fun o ho => nl ho, fun o x ho => nl ho, fun o ho => nl ho, fun o ho => nl ho, fun o ho => nl ho, fun o q ho => nl ho, ?_, ?_⟩, ⟨fun r => ⟨Nat.le_refl _, Nat.le_refl _⟩, fun o ho => nl ho, fun r t hr h1 h2 => ?_, fun c hc => nl hc, fun o c ho => nl ho, fun c t hc => nl hc, fun r c hc => nl hc.1, fun r => Or.inl rfl⟩, fun o ho => nl ho, fun c hc => nl hc, fun a => rfl⟩
  · have h2 : k ≤ 0 := h2
    omega
  · have hc : (none : Option Nat) = some c := hc
    cases hc
  · have hc : false = true := hc
    cases hc
  · intro x
    refine ⟨List.nodup_nil, fun s => ⟨fun h => (by cases h), fun h => nl h.1⟩, fun _ => List.Pairwise.nil, fun _ => ?_⟩
    exact Jp_nil
  · intro s
    exact ⟨List.nodup_nil, fun o => ⟨fun h => (by cases h), fun h => nl h.1⟩, List.Pairwise.nil⟩
  · have h1 : 0 < t + 0 := h1
    have h2 : t ≤ 0 := h2
    omega
theorem m0l {r : Nat} (hr : r < 8) : m0look r = -1 := by
  have : ∀ r : Fin 8, m0look r.val = -1 := by decide
  exact this ⟨r, hr⟩
theorem A0_RS : RS MS0 A0 := by
  refine ⟨⟨rfl, rfl, rfl⟩, fun o ho => nl ho, fun o ho => nl ho, ⟨0, fun _ => 0, rfl, Nat.le_refl _, fun o ho => nl ho⟩, ⟨[], rfl, fun i h => nl h, List.nodup_nil, fun o => ⟨fun h => (by cases h), fun h => nl h⟩, List.Pairwise.nil⟩, fun c hc => nl hc, ⟨0, fun _ => 0, fun _ => [], rfl, Nat.le_refl _, fun c hc => nl hc⟩, fun r hr => ⟨?_, fun c hc => ⟨?_, ?_, Or.inl ?_, fun _ => ?_, fun c0 h => ?_⟩⟩⟩
  · exact m0l hr
  · show (if 101 + r = 39 then m0look else fun _ => 0) c = _
    rw [if_neg (by omega)]
    rfl
  · show (if 109 + r = 39 then m0look else fun _ => 0) c = _
    rw [if_neg (by omega)]
    rfl
  · show (if 117 + r = 39 then m0look else fun _ => 0) c = _
    rw [if_neg (by omega)]
  · show (if 117 + r = 39 then m0look else fun _ => 0) c = _
    rw [if_neg (by omega)]
  · have h : (none : Option Nat) = some c0 := h
    cases h
theorem fin8 {P : Nat → Prop} (h0 : P 0) (h1 : P 1) (h2 : P 2) (h3 : P 3) (h4 : P 4) (h5 : P 5) (h6 : P 6) (h7 : P 7) : ∀ r, r < 8 → P r := by
  intro r hr
  match r, hr with
  | 0, _ => exact h0
  | 1, _ => exact h1
  | 2, _ => exact h2
  | 3, _ => exact h3
  | 4, _ => exact h4
  | 5, _ => exact h5
  | 6, _ => exact h6
  | 7, _ => exact h7
theorem Cj_q {k j p : Nat} (hk : k = 15 ∨ k = 16) : Cj.q k j p = none := by
  rcases hk with rfl | rfl <;> rfl
set_option maxRecDepth 100000 in
theorem A0_RC : RC Nj Cj A0 0 := by
  refine ⟨⟨⟨rfl, rfl, rfl, rfl, rfl, rfl, rfl, rfl, rfl, rfl, rfl, rfl, rfl, rfl, rfl, by decide, rfl, rfl, rfl⟩, ?_, ⟨rfl, rfl, rfl, rfl, rfl, rfl, rfl, rfl, rfl, rfl, rfl, rfl, rfl, rfl, rfl, rfl, rfl, rfl, rfl, rfl, rfl⟩, ⟨rfl, rfl, rfl, rfl, rfl, rfl, rfl, rfl, rfl, rfl, rfl, rfl, ?_, ?_, ?_, ?_⟩, ⟨rfl, rfl, rfl, rfl, rfl, rfl⟩, fun o ho => nl ho, ⟨fun o ho => nl ho, fun i j h => ?_⟩, ⟨rfl, fun o ho => nl ho⟩, ⟨rfl, rfl, fun c _ _ => Cj_q (Or.inr rfl), fun c hc => nl hc⟩, ?_, fun o ho => nl ho, ⟨fun s hs => nl hs, fun s t hs => nl hs, fun x hx => ?_⟩⟩, ⟨rfl, fun j hj => ⟨0, Nat.le_refl _, ?_⟩, fun p y h => ?_⟩⟩
  · exact wf_of (by decide +kernel)
  · exact fin8 ⟨rfl, rfl, rfl, rfl, rfl, rfl, rfl⟩ ⟨rfl, rfl, rfl, rfl, rfl, rfl, rfl⟩ ⟨rfl, rfl, rfl, rfl, rfl, rfl, rfl⟩ ⟨rfl, rfl, rfl, rfl, rfl, rfl, rfl⟩ ⟨rfl, rfl, rfl, rfl, rfl, rfl, rfl⟩ ⟨rfl, rfl, rfl, rfl, rfl, rfl, rfl⟩ ⟨rfl, rfl, rfl, rfl, rfl, rfl, rfl⟩ ⟨rfl, rfl, rfl, rfl, rfl, rfl, rfl⟩
  · intro j hj
    have hj : j < 10 := hj
    match j, hj with
    | 0, _ => rfl
    | 1, _ => rfl
    | 2, _ => rfl
    | 3, _ => rfl
    | 4, _ => rfl
    | 5, _ => rfl
    | 6, _ => rfl
    | 7, _ => rfl
    | 8, _ => rfl
    | 9, _ => rfl
  · intro j hj
    match j, hj with
    | 0, _ => rfl
    | 1, _ => rfl
    | 2, _ => rfl
    | 3, _ => rfl
    | 4, _ => rfl
    | 5, _ => rfl
    | 6, _ => rfl
  · intro i hi
    show (if 18 = 18 ∧ 0 = 0 ∧ i < 500 then some i else _) = some i
    rw [if_pos ⟨rfl, rfl, hi⟩]
  · rw [Cj_q (Or.inl rfl)] at h; cases h
  · intro r hr
    refine ⟨fun a _ => rfl, fun c _ => rfl, fun a d _ => ⟨fun h => ?_, fun h => nl h.1.1.1⟩, ?_, ?_, ?_, ?_, ?_, ?_⟩
    · rw [Cj_q (Or.inr rfl)] at h; cases h
    all_goals (revert r; exact fin8 rfl rfl rfl rfl rfl rfl rfl rfl)
  · have hx0 : x = none := by
      cases x with
      | none => rfl
      | some m => exact nl (hx m rfl)
    subst hx0
    rfl
  · have hj : j < 1 := hj
    have : j = 0 := by omega
    subst this
    rfl
  · rw [Cj_q (Or.inl rfl)] at h; cases h
theorem A0_INV : INV MS0 Nj Cj A0 0 := by
  refine ⟨A0_RS, A0_RC, A0_AI, [], [], [], [], 4, 5, 6, 0, ⟨rfl, rfl, rfl, by decide, by decide, by decide, by decide, by decide, by decide⟩, ⟨⟨by decide, rfl, rfl, Nat.zero_le _, by decide⟩, fun i h => nl h, rfl, fun i h => nl h, Nat.zero_le _⟩, ⟨⟨by decide, rfl, rfl, Nat.zero_le _, by decide⟩, fun i h => nl h, rfl, fun i h => nl h, Nat.zero_le _⟩, ⟨⟨by decide, rfl, rfl, Nat.zero_le _, by decide⟩, fun i h => nl h, rfl, fun i h => nl h, Nat.zero_le _⟩, ⟨⟨by decide, rfl, rfl, Nat.zero_le _, by decide⟩, fun i h => nl h, rfl, fun i h => nl h⟩, ⟨rfl, rfl, by decide⟩, rfl, false, rfl, rfl⟩
