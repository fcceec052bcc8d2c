/-! JSON: strings. -/
def hexV (b : Nat) : Option Nat := if 48 ≤ b ∧ b ≤ 57 then some (b - 48) else if 97 ≤ b ∧ b ≤ 102 then some (b - 97 + 10) else if 65 ≤ b ∧ b ≤ 70 then some (b - 65 + 10) else none
def hx (bs : List Nat) (p : Nat) : Option Nat := match bs[p]? with
  | none => none
  | some b => hexV b
/-- what follows a backslash: where it ends or is wrong, the byte -/
def escR (bs : List Nat) (p : Nat) : Nat × Option Nat := match bs[p]? with
  | none => (p, none)
  | some b => if b = 120 then (match hx bs (p + 1) with
      | none => (p + 1, none)
      | some u => match hx bs (p + 2) with
        | none => (p + 2, none)
        | some v => (p + 3, some (16 * u + v))) else if b = 110 then (p + 1, some 10) else if b = 116 then (p + 1, some 9) else if b = 34 ∨ b = 92 ∨ b = 47 then (p + 1, some b) else (p, none)
/-- a string of at most k bytes: where its end or what is wrong stands, what it is -/
def strR (bs : List Nat) : Nat → Nat → List Nat → Nat × Option (List Nat)
  | 0, p, d => (p, if bs[p]? = some 34 then some d else none)
  | k + 1, p, d => match bs[p]? with
    | none => (p, none)
    | some b => if b = 34 then (p, some d) else if b < 32 ∨ 126 < b then (p, none) else if b = 92 then (match escR bs (p + 1) with
        | (q, some c) => strR bs k q (d ++ [c])
        | (q, none) => (q, none)) else strR bs k (p + 1) (d ++ [b])
/-- the class's row of what was decoded -/
def CD (C : CS) (d : List Nat) : Prop := RW C 1 d.length ∧ RB C 1 0 d ∧ C.z 13 1 = 8192 ∧ C.r 1 1 0 = some 1
/-- the reference's -/
def SD (S : MS) (d : List Nat) : Prop := S.i 65 = nI d.length ∧ ∀ i (h : i < d.length), d[i] < 256 ∧ S.a 62 i = sb d[i]
def CS.jr (C : CS) (x : Int32) (u f : Nat → Int32) : CS := (fun k f1 j => if k = 1 ∧ f1 = 4 ∧ j = 0 then x else if k = 5 ∧ j = 1 then u f1 else C.i k f1 j, C.l, C.r, fun k j p => if k = 13 ∧ j = 1 then f p else C.a k j p, C.q, C.z)
def Q1 (C C' : CS) : Prop := ∃ x u f, C' = C.jr x u f
def QS (S S' : MS) : Prop := (∀ j, j ≠ 65 → j ≠ 66 → j ≠ 68 → S'.i j = S.i j) ∧ (∀ k, k ≠ 62 → S'.a k = S.a k) ∧ S'.n = S.n
section JSB
variable {S S' : MS} {N : Nat → Nat} {C C' : CS} {A : AS} {r rd js p : Nat} {bs d : List Nat}
theorem hexV_lt {b v : Nat} (h : hexV b = some v) : v < 16 := by
  unfold hexV at h
  split at h
  · have := Option.some.inj h; omega
  · split at h
    · have := Option.some.inj h; omega
    · split at h
      · have := Option.some.inj h; omega
      · cases h
theorem hx_in {v : Nat} (h : hx bs p = some v) : v < 16 ∧ p < bs.length := by
  unfold hx at h
  cases e : bs[p]? with
  | none => rw [e] at h; cases h
  | some b =>
    rw [e] at h
    obtain ⟨h1, _⟩ := List.getElem?_eq_some_iff.mp e
    exact ⟨hexV_lt h, h1⟩
theorem getq {b : Nat} (h : bs[p]? = some b) : p < bs.length := (List.getElem?_eq_some_iff.mp h).1
theorem escR_ok (hb : ∀ i (hi : i < bs.length), bs[i] < 256) (hp : p ≤ bs.length) : (escR bs p).1 ≤ bs.length ∧ p ≤ (escR bs p).1 ∧ ∀ c, (escR bs p).2 = some c → p < (escR bs p).1 ∧ c < 256 := by
  unfold escR
  cases e : bs[p]? with
  | none => exact ⟨hp, Nat.le_refl _, fun c h => by cases h⟩
  | some b =>
    obtain ⟨h1, h2⟩ := List.getElem?_eq_some_iff.mp e
    have hb2 : b < 256 := by rw [← h2]; exact hb p h1
    simp only []
    split
    · cases e1 : hx bs (p + 1) with
      | none => exact ⟨by show p + 1 ≤ _; omega, by show p ≤ p + 1; omega, fun c h => by cases h⟩
      | some u =>
        have := hx_in e1
        cases e2 : hx bs (p + 2) with
        | none => exact ⟨by show p + 2 ≤ _; omega, by show p ≤ p + 2; omega, fun c h => by cases h⟩
        | some v =>
          have := hx_in e2
          refine ⟨by show p + 3 ≤ _; omega, by show p ≤ p + 3; omega, fun c h => ⟨by show p < p + 3; omega, ?_⟩⟩
          have := Option.some.inj h
          omega
    · split
      · exact ⟨by show p + 1 ≤ _; omega, by show p ≤ p + 1; omega, fun c h => ⟨by show p < p + 1; omega, by have := Option.some.inj h; omega⟩⟩
      · split
        · exact ⟨by show p + 1 ≤ _; omega, by show p ≤ p + 1; omega, fun c h => ⟨by show p < p + 1; omega, by have := Option.some.inj h; omega⟩⟩
        · split
          · exact ⟨by show p + 1 ≤ _; omega, by show p ≤ p + 1; omega, fun c h => ⟨by show p < p + 1; omega, by have := Option.some.inj h; omega⟩⟩
          · exact ⟨hp, Nat.le_refl _, fun c h => by cases h⟩
theorem strR_ok (hb : ∀ i (hi : i < bs.length), bs[i] < 256) : ∀ (k p : Nat) (d : List Nat), p ≤ bs.length → d.length ≤ p → (strR bs k p d).1 ≤ bs.length ∧ p ≤ (strR bs k p d).1 ∧ ∀ d', (strR bs k p d).2 = some d' → d'.length ≤ (strR bs k p d).1 ∧ (∃ y, d' = d ++ y ∧ y.length ≤ k) ∧ bs[(strR bs k p d).1]? = some 34 := by
  intro k
  induction k with
  | zero =>
    intro p d hp hd
    unfold strR
    refine ⟨hp, Nat.le_refl _, fun d' h => ?_⟩
    simp only [] at h ⊢
    split at h
    · rename_i h34
      obtain rfl := Option.some.inj h
      exact ⟨hd, ⟨[], by simp⟩, h34⟩
    · cases h
  | succ k ih =>
    intro p d hp hd
    unfold strR
    cases e : bs[p]? with
    | none => exact ⟨hp, Nat.le_refl _, fun d' h => by cases h⟩
    | some b =>
      have hpl := getq e
      simp only []
      split
      · rename_i h34
        refine ⟨hp, Nat.le_refl _, fun d' h => ?_⟩
        obtain rfl := Option.some.inj h
        exact ⟨hd, ⟨[], by simp⟩, by show bs[p]? = _; rw [e, h34]⟩
      · split
        · exact ⟨hp, Nat.le_refl _, fun d' h => by cases h⟩
        · split
          · obtain ⟨g1, g2, g3⟩ := escR_ok hb (p := p + 1) (by omega)
            cases hx : escR bs (p + 1) with
            | mk q o =>
              rw [hx] at g1 g2 g3
              cases o with
              | none => exact ⟨g1, by show p ≤ q; have : p + 1 ≤ q := g2; omega, fun d' h => by cases h⟩
              | some c =>
                have g4 : p + 1 < q := (g3 c rfl).1
                have g1 : q ≤ bs.length := g1
                obtain ⟨i1, i2, i3⟩ := ih q (d ++ [c]) g1 (by simp; omega)
                refine ⟨i1, Nat.le_trans (show p ≤ q by omega) i2, fun d' h => ?_⟩
                obtain ⟨j1, ⟨y, j2, j3⟩, j4⟩ := i3 d' h
                exact ⟨j1, ⟨c :: y, by rw [j2]; simp, by simp; omega⟩, j4⟩
          · obtain ⟨i1, i2, i3⟩ := ih (p + 1) (d ++ [b]) (by omega) (by simp; omega)
            refine ⟨i1, by omega, fun d' h => ?_⟩
            obtain ⟨j1, ⟨y, j2, j3⟩, j4⟩ := i3 d' h
            exact ⟨j1, ⟨b :: y, by rw [j2]; simp, by simp; omega⟩, j4⟩
/-! frames -/
theorem jr_i {x : Int32} {u f : Nat → Int32} (k f1 j : Nat) : (C.jr x u f).i k f1 j = if k = 1 ∧ f1 = 4 ∧ j = 0 then x else if k = 5 ∧ j = 1 then u f1 else C.i k f1 j := rfl
theorem jr_a {x : Int32} {u f : Nat → Int32} (k j q : Nat) : (C.jr x u f).a k j q = if k = 13 ∧ j = 1 then f q else C.a k j q := rfl
theorem Q1.refl : Q1 C C := by
  refine ⟨C.i 1 4 0, fun f => C.i 5 f 1, C.a 13 1, ?_⟩
  apply CS_ext <;> intros <;> try rfl
  · rw [jr_i]
    split
    · rename_i h; rw [h.1, h.2.1, h.2.2]
    · split
      · rename_i h; rw [h.1, h.2]
      · rfl
  · rw [jr_a]
    split
    · rename_i h; rw [h.1, h.2]
    · rfl
theorem Q1.trans {C'' : CS} (h : Q1 C C') (g : Q1 C' C'') : Q1 C C'' := by
  obtain ⟨x, u, f, rfl⟩ := h
  obtain ⟨x', u', f', rfl⟩ := g
  refine ⟨x', u', f', ?_⟩
  apply CS_ext <;> intros <;> try rfl
  · rw [jr_i, jr_i, jr_i]
    split
    · rfl
    · split <;> rfl
  · rw [jr_a, jr_a, jr_a]
    split <;> rfl
theorem Q1.RC (h : Q1 C C') (G : RC N C A rd) : RC N C' A rd := by
  obtain ⟨x, u, f, rfl⟩ := h
  exact G
theorem Q1_at {x : Int32} : Q1 C (C.setI 1 4 0 x) := by
  refine ⟨x, fun f => C.i 5 f 1, C.a 13 1, ?_⟩
  apply CS_ext <;> intros <;> try rfl
  · rw [jr_i, CS.i_setI]
    split
    · rfl
    · split
      · rename_i h; rw [h.1, h.2]
      · rfl
  · rw [jr_a, CS.a_setI]
    split
    · rename_i h; rw [h.1, h.2]
    · rfl
theorem QS.refl : QS S S := ⟨fun _ _ _ _ => rfl, fun _ _ => rfl, rfl⟩
theorem QS.trans {S'' : MS} (h : QS S S') (g : QS S' S'') : QS S S'' := ⟨fun j a b c => (g.1 j a b c).trans (h.1 j a b c), fun k a => (g.2.1 k a).trans (h.2.1 k a), g.2.2.trans h.2.2⟩
theorem QS_setI {j : Nat} {x : Int32} (h : j = 65 ∨ j = 66 ∨ j = 68) : QS S (S.setI j x) := ⟨fun i a b c => by rw [MS.i_setI, if_neg (by omega)], fun _ _ => rfl, rfl⟩
theorem CD.at {x : Int32} (h : CD C d) : CD (C.setI 1 4 0 x) d := by
  obtain ⟨h1, h2, h3, h4⟩ := h
  exact ⟨⟨h1.1, h1.2.1, by rw [CS.i_setI, if_neg (by omega)]; exact h1.2.2.1, h1.2.2.2⟩, h2, h3, h4⟩
theorem SD.fr (h : SD S d) (h1 : S'.i 65 = S.i 65) (h2 : S'.a 62 = S.a 62) : SD S' d := ⟨by rw [h1]; exact h.1, fun i hi => by rw [h2]; exact h.2 i hi⟩
/-- a byte is decoded -/
theorem CD.put (hT : CT N C js bs p) (h : CD C d) (hl : d.length < 8192) {b : Nat} (hb : b < 256) : ∃ C', m_cRw_write N 1 C (nI b) = some C' ∧ CT N C' js bs p ∧ CD C' (d ++ [b]) ∧ Q1 C C' := by
  obtain ⟨h1, h2, h3, h4⟩ := h
  obtain ⟨t1, t2, t3, t4, t5, t6, t7⟩ := hT
  have hrow : isRow N C 1 1 d.length := ⟨by omega, h1.2.1, by omega, h1.2.2.1, by omega, by omega⟩
  refine ⟨_, pc_write hrow (by omega), ⟨t1, t2, ⟨t3.1, t3.2.1, ?_, t3.2.2.2⟩, ?_, t5, ?_, t7⟩, ⟨⟨by omega, h1.2.1, ?_, ?_, h1.2.2.2.2⟩, ?_, h3, h4⟩, ?_⟩
  · rw [CS.i_setI, if_neg (by omega), CS.i_setA]; exact t3.2.2.1
  · intro i hi
    rw [CS.a_setI, CS.a_setA, if_neg (by omega)]
    exact t4 i hi
  · rw [CS.i_setI, if_neg (by omega), CS.i_setA]; exact t6
  · rw [CS.i_setI, if_pos ⟨rfl, rfl, rfl⟩, List.length_append, List.length_singleton]
  · rw [List.length_append, List.length_singleton]
    show d.length + 1 ≤ C.z 13 1
    omega
  · intro i hi
    rw [List.length_append, List.length_singleton] at hi
    rw [CS.a_setI, CS.a_setA, Nat.zero_add]
    by_cases e : i < d.length
    · have := h2 i e
      rw [Nat.zero_add] at this
      rw [List.getElem_append_left e, if_neg (by omega)]
      exact this
    · have e2 : i = d.length := by omega
      subst e2
      rw [List.getElem_concat_length rfl, if_pos ⟨rfl, rfl, rfl⟩]
      refine ⟨hb, ?_⟩
      rw [vp_nar_byte]
      unfold sb
      simp
  · refine ⟨C.i 1 4 0, fun f => if f = 1 then nI (d.length + 1) else C.i 5 f 1, fun q => if q = d.length then vp_nar .byte (nI b).toInt8.toInt32 else C.a 13 1 q, ?_⟩
    apply CS_ext <;> intros <;> try rfl
    · rename_i k f j
      rw [jr_i, CS.i_setI, CS.i_setA]
      by_cases e0 : k = 1 ∧ f = 4 ∧ j = 0
      · rw [if_pos e0, if_neg (by omega), e0.1, e0.2.1, e0.2.2]
      · rw [if_neg e0]
        by_cases e : k = 5 ∧ j = 1
        · rw [if_pos e]
          by_cases e2 : f = 1
          · rw [if_pos ⟨e.1, e2, e.2⟩, if_pos e2]
          · rw [if_neg (fun h => e2 h.2.1), if_neg e2, e.1, e.2]
        · rw [if_neg (fun h => e ⟨h.1, h.2.2⟩), if_neg e]
    · rename_i k j q
      rw [jr_a, CS.a_setI, CS.a_setA]
      by_cases e : k = 13 ∧ j = 1
      · rw [if_pos e]
        by_cases e2 : q = d.length
        · rw [if_pos ⟨e.1, e.2, e2⟩, if_pos e2]
        · rw [if_neg (fun h => e2 h.2.2), if_neg e2, e.1, e.2]
      · rw [if_neg (fun h => e ⟨h.1, h.2.1⟩), if_neg e]
end JSB
