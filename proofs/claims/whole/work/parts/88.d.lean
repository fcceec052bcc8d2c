/-! JSON: the class reads strings. -/
section JSD
variable {S S' : MS} {N : Nat → Nat} {C C' : CS} {A : AS} {r rd js p : Nat} {bs d : List Nat}
theorem mul16 {q : Nat} : (16 : Int32) * nI q = nI (16 * q) := by
  rw [show (16 : Int32) = nI 16 from by decide]
  exact (Int32.ofNat_mul 16 q).symm
theorem eI {b c : Nat} (hb : b < 256) (hc : c < 256) : nI b = nI c ↔ b = c := nI_eq (by omega) (by omega)
theorem set_at {x y : Int32} : (C.setI 1 4 0 x).setI 1 4 0 y = C.setI 1 4 0 y := by
  apply CS_ext <;> intros <;> try rfl
  rw [CS.i_setI, CS.i_setI, CS.i_setI]
  split <;> rfl
theorem CT.next (h : CT N C js bs p) : C.setI 1 4 0 (C.i 1 4 0 + 1) = C.setI 1 4 0 (nI (p + 1)) := by
  rw [h.2.2.2.2.2.1, nI_s]
/-- two digits -/
theorem c_hex2 (h : CT N C js bs p) : m_cRd_readEscaped_L105 N 0 C 1 0 0 = some (match hx bs p with
      | none => .inr (C, 0)
      | some u => match hx bs (p + 1) with
        | none => .inr (C.setI 1 4 0 (nI (p + 1)), 0)
        | some v => .inl (C.setI 1 4 0 (nI (p + 2)), nI (16 * u + v))) := by
  have hb := h.b
  have hN := h.1
  have h8 := h.2.2.2.2.1
  have hB : ∀ (D : CS) (q : Nat) (x3 x4 : Int32), ¬ (2 : Int32) ≤ x4 → CT N D js bs q → m_cRd_readEscaped_B105 N 0 D 1 x3 x4 = (match hx bs q with
      | none => some (.inr (.inr (D, 0)))
      | some u => some (.inl (D.setI 1 4 0 (nI (q + 1)), 1, 16 * x3 + nI u, x4 + 1))) := by
    intro D q x3 x4 h4 hD
    have hjs := hD.2.2.1.1
    unfold m_cRd_readEscaped_B105
    rw [if_neg (show ¬ (1 : Int32) = 0 by decide), if_neg h4, gl_ok (by omega), hD.2.1.1, gn_s (by omega), hD.at, ob_ok]
    simp only []
    rw [c_hex hb, ob_ok]
    simp only []
    cases eq : hx bs q with
    | none => rw [show cI none = -1 from rfl, if_neg (show ¬ (0 : Int32) ≤ -1 by decide)]
    | some u =>
      have hu := (hx_in eq).1
      rw [if_pos (show (0 : Int32) ≤ cI (some u) from (nI_leI (a := 0) (by omega) (by omega)).mpr (Nat.zero_le _)), hD.next]
      rfl
  unfold m_cRd_readEscaped_L105 FU
  rw [show (1000000 : Nat) = 999997 + 1 + 1 + 1 from rfl]
  have h1 := hB C p 0 0 (by decide) h
  cases e1 : hx bs p with
  | none =>
    rw [e1] at h1
    simp only [lp, h1]
  | some u =>
    rw [e1] at h1
    have hp := hx_in e1
    have hT1 := h.set (q := p + 1) (by omega)
    have h2 := hB (C.setI 1 4 0 (nI (p + 1))) (p + 1) (16 * 0 + nI u) (0 + 1) (by decide) hT1
    cases e2 : hx bs (p + 1) with
    | none =>
      rw [e2] at h2
      simp only [lp, h1, h2]
    | some v =>
      rw [e2] at h2
      have h3 : ∀ (D : CS) (x : Int32), m_cRd_readEscaped_B105 N 0 D 1 x (0 + 1 + 1) = some (.inr (.inl (D, x))) := by
        intro D x
        unfold m_cRd_readEscaped_B105
        rw [if_neg (show ¬ (1 : Int32) = 0 by decide), if_pos (show (2 : Int32) ≤ 0 + 1 + 1 by decide)]
      simp only [lp, h1, h2, h3]
      rw [set_at, show (16 : Int32) * 0 + nI u = nI u from by rw [show (16 : Int32) * 0 = nI 0 from by decide, nI_add, Nat.zero_add], mul16, nI_add]
theorem c_esc (h : CT N C js bs p) (hD : CD C d) (hl : d.length < 8192) : ∃ C', m_cRd_readEscaped N 0 C = some (C', b2 (escR bs p).2.isSome) ∧ CT N C' js bs (escR bs p).1 ∧ Q1 C C' ∧ ∀ c, (escR bs p).2 = some c → CD C' (d ++ [c]) := by
  have hb := h.b
  have hN := h.1
  have hjs := h.2.2.1.1
  obtain ⟨g1, g2, g3⟩ := escR_ok hb h.2.2.2.2.2.2
  unfold m_cRd_readEscaped m_cRd_readEscaped_J0
  rw [gl_ok (by omega), h.2.1.1, gn_s (by omega), h.at, ob_ok]
  simp only []
  unfold escR at g1 g2 g3 ⊢
  cases hp : bs[p]? with
  | none =>
    rw [show atI bs p = -nI 1 from by unfold atI; rw [hp]]
    refine ⟨C, ?_, h, Q1.refl, fun c hc => by cases hc⟩
    rfl
  | some b =>
    have hpl := getq hp
    have hb2 : b < 256 := by
      obtain ⟨h1, h2⟩ := List.getElem?_eq_some_iff.mp hp
      rw [← h2]; exact hb p h1
    rw [hp] at g1 g2 g3
    rw [show atI bs p = nI b from by unfold atI; rw [hp]]
    simp only [] at g1 g2 g3 ⊢
    have hT1 := h.set (q := p + 1) (by omega)
    have hD1 : CD (C.setI 1 4 0 (nI (p + 1))) d := hD.at
    have hw : ∀ (D : CS) (c : Nat), D.r 1 1 0 = some 1 → m_cRd_readEscaped_J162 N 0 D (nI c) = ob (m_cRw_write N 1 D (nI c)) (fun o_4 => some (o_4, 1)) := by
      intro D c hr
      unfold m_cRd_readEscaped_J162
      rw [gl_ok (by omega), hr, gn_s (by omega)]
    have hplain : ∀ c : Nat, c < 256 → ∃ C', m_cRd_readEscaped_J101 N 0 (C.setI 1 4 0 (C.i 1 4 0 + 1)) 0 (nI c) = some (C', 1) ∧ CT N C' js bs (p + 1) ∧ Q1 C C' ∧ CD C' (d ++ [c]) := by
      intro c hc
      obtain ⟨C', k1, k2, k3, k4⟩ := hD1.put hT1 hl hc
      refine ⟨C', ?_, k2, Q1_at.trans k4, k3⟩
      unfold m_cRd_readEscaped_J101 m_cRd_readEscaped_L105 FU
      have hB : ∀ D : CS, ∀ x y : Int32, m_cRd_readEscaped_B105 N 0 D 0 x y = some (.inr (.inl (D, x))) := by
        intro D x y
        unfold m_cRd_readEscaped_B105
        rw [if_pos rfl]
      rw [show (1000000 : Nat) = 999999 + 1 from rfl]
      simp only [lp, hB, oe_l]
      rw [h.next, hw _ _ hD1.2.2.2, k1, ob_ok]
    by_cases e120 : b = 120
    · subst e120
      rw [if_pos (show nI 120 = 120 from rfl)] at *
      rw [if_pos rfl] at g1 g2 g3 ⊢
      unfold m_cRd_readEscaped_J23 m_cRd_readEscaped_J60
      rw [if_neg (show ¬ (1 : Int32) = 0 by decide), gl_ok (by omega), if_neg (show ¬ (1 : Int32) = 0 by decide), h.next]
      unfold m_cRd_readEscaped_J101
      rw [c_hex2 hT1]
      cases e1 : hx bs (p + 1) with
      | none =>
        rw [show p + 1 + 1 = p + 2 from rfl] at *
        refine ⟨C.setI 1 4 0 (nI (p + 1)), rfl, hT1, Q1_at, fun c hc => by cases hc⟩
      | some u =>
        have hu := hx_in e1
        rw [show p + 1 + 1 = p + 2 from rfl]
        simp only []
        cases e2 : hx bs (p + 2) with
        | none =>
          refine ⟨C.setI 1 4 0 (nI (p + 2)), ?_, h.set (q := p + 2) (by omega), Q1_at, fun c hc => by cases hc⟩
          simp only [oe_r]
          rw [set_at]
          rfl
        | some v =>
          have hv := hx_in e2
          have hT3 := h.set (q := p + 3) (by omega)
          have hD3 : CD (C.setI 1 4 0 (nI (p + 3))) d := hD.at
          obtain ⟨C', k1, k2, k3, k4⟩ := hD3.put hT3 hl (b := 16 * u + v) (by omega)
          refine ⟨C', ?_, k2, Q1_at.trans k4, fun c hc => ?_⟩
          · simp only [oe_l]
            rw [set_at, show p + 1 + 2 = p + 3 from rfl, hw _ _ hD3.2.2.2, k1, ob_ok]
            rfl
          · rw [← Option.some.inj hc]
            exact k3
    · rw [if_neg (show ¬ nI b = 120 from fun e => e120 ((eI (c := 120) hb2 (by omega)).mp e)), if_neg e120]
      unfold m_cRd_readEscaped_J23
      rw [if_pos rfl]
      have hJ60 : ∀ c : Nat, c < 256 → (if nI b = 110 then (10 : Int32) else if nI b = 116 then 9 else nI b) = nI c → ∃ C', m_cRd_readEscaped_J60 N 0 C (nI b) 0 = some (C', 1) ∧ CT N C' js bs (p + 1) ∧ Q1 C C' ∧ CD C' (d ++ [c]) := by
        intro c hc he
        obtain ⟨C', k1, k2⟩ := hplain c hc
        refine ⟨C', ?_, k2⟩
        unfold m_cRd_readEscaped_J60
        rw [gl_ok (by omega), if_pos rfl]
        by_cases c1 : nI b = 110
        · rw [if_pos c1] at he ⊢
          rw [he]; exact k1
        · rw [if_neg c1] at he ⊢
          by_cases c2 : nI b = 116
          · rw [if_pos c2] at he ⊢
            rw [he]; exact k1
          · rw [if_neg c2] at he ⊢
            rw [he]; exact k1
      by_cases e110 : b = 110
      · obtain ⟨C', k1, k2, k3, k4⟩ := hJ60 10 (by omega) (by rw [e110]; rfl)
        rw [if_pos e110]
        refine ⟨C', ?_, k2, k3, fun c hc => by rw [← Option.some.inj hc]; exact k4⟩
        rw [if_pos (show nI b = 110 by rw [e110]; rfl), k1]; rfl
      · rw [if_neg (show ¬ nI b = 110 from fun e => e110 ((eI (c := 110) hb2 (by omega)).mp e)), if_neg e110]
        by_cases e116 : b = 116
        · obtain ⟨C', k1, k2, k3, k4⟩ := hJ60 9 (by omega) (by rw [e116]; rfl)
          rw [if_pos e116]
          refine ⟨C', ?_, k2, k3, fun c hc => by rw [← Option.some.inj hc]; exact k4⟩
          rw [if_pos (show nI b = 116 by rw [e116]; rfl), k1]; rfl
        · rw [if_neg (show ¬ nI b = 116 from fun e => e116 ((eI (c := 116) hb2 (by omega)).mp e)), if_neg e116]
          by_cases e3 : b = 34 ∨ b = 92 ∨ b = 47
          · obtain ⟨C', k1, k2, k3, k4⟩ := hJ60 b hb2 (by rw [if_neg (show ¬ nI b = 110 from fun e => e110 ((eI (c := 110) hb2 (by omega)).mp e)), if_neg (show ¬ nI b = 116 from fun e => e116 ((eI (c := 116) hb2 (by omega)).mp e))])
            rw [if_pos e3]
            refine ⟨C', ?_, k2, k3, fun c hc => by rw [← Option.some.inj hc]; exact k4⟩
            rcases e3 with e | e | e
            · rw [if_pos (show nI b = 34 by rw [e]; rfl), k1]; rfl
            · rw [if_neg (show ¬ nI b = 34 by rw [e]; decide), if_pos (show nI b = 92 by rw [e]; rfl), k1]; rfl
            · rw [if_neg (show ¬ nI b = 34 by rw [e]; decide), if_neg (show ¬ nI b = 92 by rw [e]; decide), if_pos (show nI b = 47 by rw [e]; rfl), k1]; rfl
          · rw [if_neg e3]
            have n34 : ¬ nI b = 34 := fun e => e3 (Or.inl ((eI (c := 34) hb2 (by omega)).mp e))
            have n92 : ¬ nI b = 92 := fun e => e3 (Or.inr (Or.inl ((eI (c := 92) hb2 (by omega)).mp e)))
            have n47 : ¬ nI b = 47 := fun e => e3 (Or.inr (Or.inr ((eI (c := 47) hb2 (by omega)).mp e)))
            refine ⟨C, ?_, h, Q1.refl, fun c hc => by cases hc⟩
            rw [if_neg n34, if_neg n92, if_neg n47]
            rfl
end JSD
