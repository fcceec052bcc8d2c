/-! CHANGES ARE GAINED: counts and heads. -/
theorem cntTo_or {p q : Nat → Bool} : ∀ {n : Nat}, (∀ i, i < n → p i = true → q i = false) → cntTo (fun i => p i || q i) n = cntTo p n + cntTo q n := by
  intro n
  induction n with
  | zero => intro _; rfl
  | succ n ih =>
    intro h
    rw [cntTo_s, cntTo_s, cntTo_s, ih (fun i hi => h i (by omega))]
    have hn := h n (by omega)
    cases hp : p n with
    | true => rw [hn hp]; simp; omega
    | false => simp; omega
section GAB
variable {A : AS} {r c : Nat}
/-- a change's ops -/
theorem cnt_chg (hA : AI A) (hc : c < A.m) : cntTo (fun o => decide (A.chg o = some c)) A.n = A.cz c := by
  have hT := hA.2.2.2.1
  have h4 := hT.2.2.2.1 c hc
  have hkg := hA.2.2.1.2.2.1
  apply Nat.le_antisymm
  · have := cnt_inj (p := fun o => decide (A.chg o = some c)) (m := A.cz c) (fun o => A.id o / 8 - A.cf c) (n := A.n) (q := fun _ => true) ?_ ?_
    · rw [cntTo_all] at this; exact this
    · intro o ho hp
      have hp := of_decide_eq_true hp
      have := hT.2.2.2.2.1 o c ho hp
      exact ⟨by omega, rfl⟩
    · intro o p ho hp h1 h2 he
      have h1 := of_decide_eq_true h1
      have h2 := of_decide_eq_true h2
      have b1 := hT.2.2.2.2.1 o c ho h1
      have b2 := hT.2.2.2.2.1 p c hp h2
      have k1 := hkg o ho
      have k2 := hkg p hp
      rw [h1] at k1
      rw [h2] at k2
      have e1 := (hA.2.2.1.1 o ho).2.1
      have e2 := (hA.2.2.1.1 p hp).2.1
      have e3 : A.own o = A.own p := by rw [← k1.2.2.1, ← k2.2.2.1]
      exact hA.2.2.1.2.1 o p ho hp k1.2.1 k2.2.1 (by omega)
  · have ex : ∀ k, ∃ o, k < A.cz c → o < A.n ∧ A.chg o = some c ∧ A.id o / 8 = A.cf c + k := by
      intro k
      by_cases h : k < A.cz c
      · obtain ⟨o, h1, h2, h3⟩ := hT.2.2.2.2.2.1 c (A.cf c + k) hc (by omega) (by omega)
        exact ⟨o, fun _ => ⟨h1, h2, h3⟩⟩
      · exact ⟨0, fun h2 => absurd h2 h⟩
    have := cnt_inj (p := fun _ => true) (m := A.n) (fun k => Classical.choose (ex k)) (n := A.cz c) (q := fun o => decide (A.chg o = some c)) ?_ ?_
    · rw [cntTo_all] at this; exact this
    · intro k hk _
      obtain ⟨h1, h2, h3⟩ := Classical.choose_spec (ex k) hk
      exact ⟨h1, decide_eq_true h2⟩
    · intro k l hk hl _ _ he
      obtain ⟨_, _, h3⟩ := Classical.choose_spec (ex k) hk
      obtain ⟨_, _, h4⟩ := Classical.choose_spec (ex l) hl
      have he : Classical.choose (ex k) = Classical.choose (ex l) := he
      rw [he] at h3
      omega
def AS.rdyB (A : AS) (r c : Nat) : Bool := decide (c < A.m) && decide (A.cu c = A.hv r (A.ca c) + 1) && (List.range A.m).all (fun d => !A.dp c d || A.hasB r d)
theorem rdyB_iff (hA : AI A) : A.rdyB r c = true ↔ A.rdy r c := by
  unfold AS.rdyB AS.rdy
  simp only [Bool.and_eq_true, decide_eq_true_eq, List.all_eq_true, List.mem_range, Bool.or_eq_true, Bool.not_eq_true', hasB_iff]
  constructor
  · rintro ⟨⟨h1, h2⟩, h3⟩
    refine ⟨h1, h2, fun d hd => ?_⟩
    have := (hA.2.1.2.2.2.2.2.2.1 c d h1 hd).1
    rcases h3 d (by omega) with h | h
    · rw [hd] at h; cases h
    · exact h
  · rintro ⟨h1, h2, h3⟩
    refine ⟨⟨h1, h2⟩, fun d _ => ?_⟩
    cases hb : A.dp c d with
    | false => exact Or.inl rfl
    | true => exact Or.inr (h3 d hb)
theorem ga_headO (hA : AI A) (h : A.rdy r c) {q d : Nat} (hq : q ≠ r) : (A.ga r c).head q d ↔ A.head q d := by
  have hh : ∀ e, (A.ga r c).has q e ↔ A.has q e := fun e => by
    rw [ga_has hA h]
    constructor
    · rintro (h1 | h1)
      · exact h1
      · exact absurd h1.1 hq
    · exact Or.inl
  unfold AS.head
  rw [hh]
  simp only [hh]
  exact Iff.rfl
theorem ga_headR (hA : AI A) (h : A.rdy r c) {d : Nat} : (A.ga r c).head r d ↔ d = c ∨ (A.head r d ∧ A.dp c d = false) := by
  have hh : ∀ e, (A.ga r c).has r e ↔ A.has r e ∨ e = c := fun e => by
    rw [ga_has hA h]
    simp
  constructor
  · rintro ⟨h1, h2⟩
    rcases (hh d).mp h1 with h3 | h3
    · right
      exact ⟨⟨h3, fun e he => h2 e ((hh e).mpr (Or.inl he))⟩, h2 c ((hh c).mpr (Or.inr rfl))⟩
    · exact Or.inl h3
  · rintro (rfl | ⟨⟨h1, h2⟩, h3⟩)
    · refine ⟨(hh d).mpr (Or.inr rfl), fun e he => ?_⟩
      show A.dp e d = false
      cases hb : A.dp e d with
      | false => rfl
      | true =>
        rcases (hh e).mp he with h3 | h3
        · have := (hA.2.1.2.2.2.2.2.2.1 e d h3.1 hb).2
          exact absurd (has_clo hA.2.1 h3 this) (rdy_no h)
        · have := (hA.2.1.2.2.2.2.2.2.1 e d (by rw [h3]; exact h.1) hb).1
          omega
    · refine ⟨(hh d).mpr (Or.inl h1), fun e he => ?_⟩
      rcases (hh e).mp he with h4 | h4
      · exact h2 e h4
      · rw [h4]; exact h3
theorem ga_hasB (hA : AI A) (h : A.rdy r c) {q d : Nat} : (A.ga r c).hasB q d = (A.hasB q d || (decide (q = r) && decide (d = c))) := by
  cases hb : (A.ga r c).hasB q d with
  | true =>
    rcases (ga_has hA h).mp (hasB_iff.mp hb) with h1 | h1
    · rw [hasB_iff.mpr h1]; rfl
    · rw [decide_eq_true h1.1, decide_eq_true h1.2]; simp
  | false =>
    symm
    rw [Bool.or_eq_false_iff]
    have hn : ¬ (A.ga r c).has q d := fun h1 => by rw [hasB_iff.mpr h1] at hb; cases hb
    constructor
    · cases hb2 : A.hasB q d with
      | false => rfl
      | true => exact absurd ((ga_has hA h).mpr (Or.inl (hasB_iff.mp hb2))) hn
    · by_cases e : q = r ∧ d = c
      · exact absurd ((ga_has hA h).mpr (Or.inr e)) hn
      · by_cases e1 : q = r
        · rw [show decide (d = c) = false from decide_eq_false (fun e2 => e ⟨e1, e2⟩), Bool.and_false]
        · rw [decide_eq_false e1]; rfl
theorem ga_nch (hA : AI A) (h : A.rdy r c) {q : Nat} : (A.ga r c).nch q = A.nch q + (if q = r then 1 else 0) := by
  unfold AS.nch
  show cntTo ((A.ga r c).hasB q) A.m = _
  by_cases e : q = r
  · rw [if_pos e]
    refine cntTo_add h.1 ?_ ?_ ?_
    · cases hb : A.hasB q c with
      | false => rfl
      | true => exact absurd (hasB_iff.mp hb) (by rw [e]; exact rdy_no h)
    · exact hasB_iff.mpr ((ga_has hA h).mpr (Or.inr ⟨e, rfl⟩))
    · intro i _ hne
      rw [ga_hasB hA h, decide_eq_false hne]
      simp
  · rw [if_neg e, Nat.add_zero]
    refine cntTo_congr (fun i hi => ?_)
    rw [ga_hasB hA h, decide_eq_false e]
    simp
theorem ga_nwt (hA : AI A) (hc : c < A.m) (hw : A.wt r c = true) {q : Nat} : (A.ga r c).nwt q + (if q = r then 1 else 0) = A.nwt q := by
  unfold AS.nwt
  show cntTo ((A.ga r c).wt q) A.m + _ = _
  by_cases e : q = r
  · rw [if_pos e]
    refine (cntTo_add hc ?_ ?_ ?_).symm
    · rw [ga_wt, if_pos ⟨e, rfl⟩]
    · rw [e]; exact hw
    · intro i _ hne
      rw [ga_wt, if_neg (fun h => hne h.2)]
  · rw [if_neg e, Nat.add_zero]
    refine cntTo_congr (fun i hi => ?_)
    rw [ga_wt, if_neg (fun h => e h.1)]
theorem ga_nop (hA : AI A) (h : A.rdy r c) {q : Nat} : (A.ga r c).nop q = A.nop q + (if q = r then A.cz c else 0) := by
  unfold AS.nop
  show cntTo ((A.ga r c).owns q) A.n = _
  have hown : ∀ o, o < A.n → (A.ga r c).owns q o = (A.owns q o || (decide (q = r) && decide (A.chg o = some c))) := by
    intro o ho
    unfold AS.owns
    show (decide (A.gone o = 0) && (match A.chg o with
      | none => decide (A.own o = q)
      | some d => (A.ga r c).hasB q d)) = _
    have hk := hA.2.2.1.2.2.1 o ho
    cases hx : A.chg o with
    | none => simp
    | some d =>
      rw [hx] at hk
      simp only []
      rw [ga_hasB hA h, hk.2.1]
      simp
  rw [cntTo_congr hown]
  by_cases e : q = r
  · rw [if_pos e, ← cnt_chg hA h.1]
    rw [cntTo_congr (q := fun o => A.owns q o || decide (A.chg o = some c)) (fun o _ => by rw [decide_eq_true e, Bool.true_and])]
    refine cntTo_or ?_
    intro o ho hp
    by_cases e2 : A.chg o = some c
    · exfalso
      unfold AS.owns at hp
      rw [e2] at hp
      simp only [Bool.and_eq_true] at hp
      rw [e] at hp
      exact rdy_no h (hasB_iff.mp hp.2)
    · exact decide_eq_false e2
  · rw [if_neg e, Nat.add_zero]
    refine cntTo_congr (fun o _ => ?_)
    rw [decide_eq_false e]
    simp
theorem ex_nwt (hc : c < A.m) (hw : A.wt r c = false) {q : Nat} : (A.ex r c).nwt q = A.nwt q + (if q = r then 1 else 0) := by
  unfold AS.nwt
  show cntTo ((A.ex r c).wt q) A.m = _
  by_cases e : q = r
  · rw [if_pos e]
    refine cntTo_add hc ?_ ?_ ?_
    · rw [e]; exact hw
    · rw [ex_wt, if_pos ⟨e, rfl⟩]
    · intro i _ hne
      rw [ex_wt, if_neg (fun h => hne h.2)]
  · rw [if_neg e, Nat.add_zero]
    refine cntTo_congr (fun i hi => ?_)
    rw [ex_wt, if_neg (fun h => e h.1)]
end GAB
