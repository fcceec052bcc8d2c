/-! JSON: both read strings. -/
section JSC
variable {S S' : MS} {N : Nat → Nat} {C C' : CS} {A : AS} {r rd js p : Nat} {bs d : List Nat}
theorem hex_val (S : MS) {b : Nat} (hb : b < 256) : m_rhex S (nI b) = some (S, cI (hexV b)) := by
  unfold m_rhex m_rhex_J0 m_rhex_J19 m_rhex_J41 m_rhex_J63 m_rhex_J64 hexV
  have lt : ∀ {c : Nat}, c < 256 → (nI b < nI c ↔ b < c) := fun hc => nI_ltI (by omega) (by omega)
  have gt : ∀ {c : Nat}, c < 256 → (nI c < nI b ↔ c < b) := fun hc => nI_ltI (by omega) (by omega)
  have l48 : (nI b < 48) ↔ b < 48 := lt (c := 48) (by omega)
  have g57 : ((57 : Int32) < nI b) ↔ 57 < b := gt (c := 57) (by omega)
  have l97 : (nI b < 97) ↔ b < 97 := lt (c := 97) (by omega)
  have g102 : ((102 : Int32) < nI b) ↔ 102 < b := gt (c := 102) (by omega)
  have l65 : (nI b < 65) ↔ b < 65 := lt (c := 65) (by omega)
  have g70 : ((70 : Int32) < nI b) ↔ 70 < b := gt (c := 70) (by omega)
  have sub : ∀ {c : Nat}, c ≤ b → nI b - nI c = nI (b - c) := fun hc => sub_nI hc
  simp only [l48, g57, l97, g102, l65, g70]
  by_cases c1 : 48 ≤ b ∧ b ≤ 57
  · rw [if_neg (by omega), if_neg (by omega), if_pos c1, show nI b - 48 = nI (b - 48) from sub c1.1]; rfl
  · rw [if_neg c1]
    have e1 : (if b < 48 then (if b < 97 then (if b < 65 then some (S, (-1 : Int32)) else if 70 < b then some (S, -1) else some (S, nI b - 65 + 10)) else if 102 < b then (if b < 65 then some (S, -1) else if 70 < b then some (S, -1) else some (S, nI b - 65 + 10)) else some (S, nI b - 97 + 10)) else if 57 < b then (if b < 97 then (if b < 65 then some (S, -1) else if 70 < b then some (S, -1) else some (S, nI b - 65 + 10)) else if 102 < b then (if b < 65 then some (S, -1) else if 70 < b then some (S, -1) else some (S, nI b - 65 + 10)) else some (S, nI b - 97 + 10)) else some (S, nI b - 48)) = (if b < 97 then (if b < 65 then some (S, (-1 : Int32)) else if 70 < b then some (S, -1) else some (S, nI b - 65 + 10)) else if 102 < b then (if b < 65 then some (S, -1) else if 70 < b then some (S, -1) else some (S, nI b - 65 + 10)) else some (S, nI b - 97 + 10)) := by
      by_cases h : b < 48
      · rw [if_pos h]
      · rw [if_neg h, if_pos (by omega)]
    rw [e1]
    by_cases c2 : 97 ≤ b ∧ b ≤ 102
    · rw [if_neg (by omega), if_neg (by omega), if_pos c2, show nI b - 97 = nI (b - 97) from sub c2.1, show nI (b - 97) + 10 = nI (b - 97 + 10) from nI_add _ 10]; rfl
    · rw [if_neg c2]
      have e2 : (if b < 97 then (if b < 65 then some (S, (-1 : Int32)) else if 70 < b then some (S, -1) else some (S, nI b - 65 + 10)) else if 102 < b then (if b < 65 then some (S, -1) else if 70 < b then some (S, -1) else some (S, nI b - 65 + 10)) else some (S, nI b - 97 + 10)) = (if b < 65 then some (S, (-1 : Int32)) else if 70 < b then some (S, -1) else some (S, nI b - 65 + 10)) := by
        by_cases h : b < 97
        · rw [if_pos h]
        · rw [if_neg h, if_pos (by omega)]
      rw [e2]
      by_cases c3 : 65 ≤ b ∧ b ≤ 70
      · rw [if_neg (by omega), if_neg (by omega), if_pos c3, show nI b - 65 = nI (b - 65) from sub c3.1, show nI (b - 65) + 10 = nI (b - 65 + 10) from nI_add _ 10]; rfl
      · rw [if_neg c3]
        by_cases h : b < 65
        · rw [if_pos h]; rfl
        · rw [if_neg h, if_pos (by omega)]; rfl
theorem hex_m1 (S : MS) : m_rhex S (-nI 1) = some (S, -1) := by
  unfold m_rhex m_rhex_J0 m_rhex_J19 m_rhex_J41 m_rhex_J63 m_rhex_J64
  rw [if_pos (by decide), if_pos (by decide), if_pos (by decide)]
theorem s_hex (hb : ∀ i (hi : i < bs.length), bs[i] < 256) (S : MS) : m_rhex S (atI bs p) = some (S, cI (hx bs p)) := by
  unfold atI hx
  cases h : bs[p]? with
  | none => exact hex_m1 S
  | some b =>
    obtain ⟨h1, h2⟩ := List.getElem?_eq_some_iff.mp h
    exact hex_val S (by rw [← h2]; exact hb p h1)
theorem hex_same (S : MS) (C : CS) (x : Int32) : (m_cRd_hexDigit N C x).map (fun o => o.2) = (m_rhex S x).map (fun o => o.2) ∧ ((m_cRd_hexDigit N C x).map (fun o => o.1)) = some C := by
  unfold m_cRd_hexDigit m_cRd_hexDigit_J0 m_cRd_hexDigit_J17 m_cRd_hexDigit_J37 m_cRd_hexDigit_J59 m_cRd_hexDigit_J60 m_rhex m_rhex_J0 m_rhex_J19 m_rhex_J41 m_rhex_J63 m_rhex_J64
  constructor
  · by_cases c1 : x < 48
    · simp only [c1, if_true]
      by_cases c2 : x < 97
      · simp only [c2, if_true]
        by_cases c3 : x < 65
        · simp only [c3, if_true]; rfl
        · simp only [c3, if_false]
          by_cases c4 : (70 : Int32) < x
          · simp only [c4, if_true]; rfl
          · simp only [c4, if_false]; rfl
      · simp only [c2, if_false]
        by_cases c5 : (102 : Int32) < x
        · simp only [c5, if_true]
          by_cases c3 : x < 65
          · simp only [c3, if_true]; rfl
          · simp only [c3, if_false]
            by_cases c4 : (70 : Int32) < x
            · simp only [c4, if_true]; rfl
            · simp only [c4, if_false]; rfl
        · simp only [c5, if_false]; rfl
    · simp only [c1, if_false]
      by_cases c6 : (57 : Int32) < x
      · simp only [c6, if_true]
        by_cases c2 : x < 97
        · simp only [c2, if_true]
          by_cases c3 : x < 65
          · simp only [c3, if_true]; rfl
          · simp only [c3, if_false]
            by_cases c4 : (70 : Int32) < x
            · simp only [c4, if_true]; rfl
            · simp only [c4, if_false]; rfl
        · simp only [c2, if_false]
          by_cases c5 : (102 : Int32) < x
          · simp only [c5, if_true]
            by_cases c3 : x < 65
            · simp only [c3, if_true]; rfl
            · simp only [c3, if_false]
              by_cases c4 : (70 : Int32) < x
              · simp only [c4, if_true]; rfl
              · simp only [c4, if_false]; rfl
          · simp only [c5, if_false]; rfl
      · simp only [c6, if_false]; rfl
  · repeat' split
    all_goals rfl
theorem c_hex (hb : ∀ i (hi : i < bs.length), bs[i] < 256) (C : CS) : m_cRd_hexDigit N C (atI bs p) = some (C, cI (hx bs p)) := by
  have S0 : MS := (fun _ => 0, fun _ _ => 0, fun _ _ => 0)
  obtain ⟨h1, h2⟩ := hex_same (N := N) S0 C (atI bs p)
  rw [s_hex hb] at h1
  cases h : m_cRd_hexDigit N C (atI bs p) with
  | none => rw [h] at h2; cases h2
  | some o =>
    rw [h] at h1 h2
    have e1 := Option.some.inj h1
    have e2 := Option.some.inj h2
    simp only [] at e1 e2
    rw [← e1, ← e2]
end JSC
