/-! JSON: both read strings. -/
section JSE
variable {S S' : MS} {N : Nat → Nat} {C C' : CS} {A : AS} {r rd js p : Nat} {bs d : List Nat}
theorem at_some {b : Nat} (h : bs[p]? = some b) : atI bs p = nI b := by unfold atI; rw [h]
theorem at_none (h : bs[p]? = none) : atI bs p = -nI 1 := by unfold atI; rw [h]
theorem strR_z {k : Nat} {b : Nat} (h : bs[p]? = some b) (h34 : b = 34) : strR bs k p d = (p, some d) := by
  cases k with
  | zero => unfold strR; rw [h, h34, if_pos rfl]
  | succ k => unfold strR; rw [h]; simp only []; rw [if_pos h34]
theorem strR_n {k : Nat} (h : bs[p]? = none) : strR bs k p d = (p, none) := by
  cases k with
  | zero => unfold strR; rw [h, if_neg (fun e => by cases e)]
  | succ k => unfold strR; rw [h]
theorem strR_w {k : Nat} {b : Nat} (h : bs[p]? = some b) (h34 : b ≠ 34) (hw : b < 32 ∨ 126 < b) : strR bs k p d = (p, none) := by
  cases k with
  | zero => unfold strR; rw [h, if_neg (fun e => h34 (Option.some.inj e))]
  | succ k => unfold strR; rw [h]; simp only []; rw [if_neg h34, if_pos hw]
theorem strR_p {k : Nat} {b : Nat} (h : bs[p]? = some b) (h34 : b ≠ 34) (hw : ¬ (b < 32 ∨ 126 < b)) (h92 : b ≠ 92) : strR bs (k + 1) p d = strR bs k (p + 1) (d ++ [b]) := by
  conv => lhs; unfold strR
  rw [h]; simp only []; rw [if_neg h34, if_neg hw, if_neg h92]
theorem strR_e {k : Nat} (h : bs[p]? = some 92) : strR bs (k + 1) p d = (match escR bs (p + 1) with
        | (q, some c) => strR bs k q (d ++ [c])
        | (q, none) => (q, none)) := by
  conv => lhs; unfold strR
  rw [h]; simp only []; rw [if_neg (by decide), if_neg (by decide), if_pos trivial]
  rfl
theorem c_str (h : CT N C js bs p) (hD : CD C d) (hd : d.length ≤ p) (hp : p < bs.length) {most : Nat} (hm : most ≤ 1024) : ∃ C', m_cRd_readString N 0 C (nI most) = some (C', b2 (strR bs most (p + 1) d).2.isSome) ∧ CT N C' js bs (strR bs most (p + 1) d).1 ∧ Q1 C C' ∧ ∀ d', (strR bs most (p + 1) d).2 = some d' → CD C' d' := by
  have hb := h.b
  have hN := h.1
  have h8 := h.2.2.2.2.1
  have hjs := h.2.2.1.1
  generalize hR : strR bs most (p + 1) d = R
  have := lp_run (body := fun a : CS × Int32 × Int32 => m_cRd_readString_B12 N 0 a.1 a.2.1 a.2.2)
    (fun i u => i ≤ most ∧ u.2.1 = nI most ∧ u.2.2 = nI i ∧ Q1 C u.1 ∧ ∃ q e, CT N u.1 js bs q ∧ CD u.1 e ∧ e.length ≤ q ∧ strR bs (most - i) q e = R)
    (fun e => match e with
      | .inl C' => Q1 C C' ∧ ∃ q e, CT N C' js bs q ∧ CD C' e ∧ strR bs 0 q e = R
      | .inr o => o.2 = b2 R.2.isSome ∧ CT N o.1 js bs R.1 ∧ Q1 C o.1 ∧ ∀ d', R.2 = some d' → CD o.1 d') most ?_ FU (C.setI 1 4 0 (nI (p + 1)), nI most, nI 0) (by unfold FU; omega) ⟨Nat.zero_le _, rfl, rfl, Q1_at, p + 1, d, h.set (by omega), hD.at, by omega, hR⟩
  · obtain ⟨e, h1, h2⟩ := this
    unfold m_cRd_readString m_cRd_readString_J0
    rw [gl_ok (by omega), h.next, show m_cRd_readString_L12 N 0 (C.setI 1 4 0 (nI (p + 1))) (nI most) 0 = _ by unfold m_cRd_readString_L12; exact h1]
    cases e with
    | inr o =>
      rw [oe_r]
      exact ⟨o.1, by rw [← h2.1], h2.2.1, h2.2.2.1, h2.2.2.2⟩
    | inl C' =>
      obtain ⟨h3, q, e, h4, h5, h6⟩ := h2
      rw [oe_l, h4.2.1.1, gn_s (by omega), h4.at, ob_ok]
      unfold strR at h6
      subst h6
      simp only []
      unfold m_cRd_readString_J114
      cases hq : bs[q]? with
      | none =>
        rw [at_none hq, if_neg (show ¬ (-nI 1 : Int32) = 34 by decide), if_neg (show ¬ (none : Option Nat) = some 34 from fun e => by cases e)]
        exact ⟨C', rfl, h4, h3, fun _ hh => by cases hh⟩
      | some b =>
        have hb2 : b < 256 := by
          obtain ⟨g1, g2⟩ := List.getElem?_eq_some_iff.mp hq
          rw [← g2]; exact hb q g1
        rw [at_some hq]
        by_cases e34 : b = 34
        · rw [e34, if_pos (show nI 34 = 34 from rfl), if_pos rfl]
          exact ⟨C', rfl, h4, h3, fun d' hh => by rw [← Option.some.inj hh]; exact h5⟩
        · rw [if_neg (show ¬ nI b = 34 from fun e => e34 ((eI (c := 34) hb2 (by omega)).mp e)), if_neg (show ¬ some b = some 34 from fun e => e34 (Option.some.inj e))]
          exact ⟨C', rfl, h4, h3, fun _ hh => by cases hh⟩
  · rintro i ⟨D, _, _⟩ hi ⟨him, rfl, rfl, hQ, q, e, hT, hC, hel, hS⟩
    simp only [] at hQ hT hC
    show (∃ a', m_cRd_readString_B12 N 0 D (nI most) (nI i) = _ ∧ _) ∨ _
    by_cases ci : i = most
    · right
      refine ⟨.inl D, ?_, hQ, q, e, hT, hC, by rw [ci, Nat.sub_self] at hS; exact hS⟩
      show m_cRd_readString_B12 N 0 D (nI most) (nI i) = _
      unfold m_cRd_readString_B12
      rw [if_pos ((nI_leI (by omega) (by omega)).mpr (by omega))]
    · have hlt : i < most := by omega
      have hql := hT.2.2.2.2.2.2
      have hB : m_cRd_readString_B12 N 0 D (nI most) (nI i) = (if atI bs q = 34 then some (.inr (.inr (D, 1))) else (if atI bs q < 32 then some (.inr (.inr (D, 0))) else (if atI bs q ≤ 126 then (if atI bs q = 92 then ob (m_cRd_readEscaped N 0 (D.setI 1 4 0 (nI (q + 1)))) (fun o_11 => (if o_11.2 = 0 then some (.inr (.inr (o_11.1, 0))) else some (.inl (o_11.1, nI most, nI (i + 1))))) else ob (m_cRw_write N 1 (D.setI 1 4 0 (nI (q + 1))) (atI bs q)) (fun o_17 => some (.inl (o_17, nI most, nI (i + 1))))) else some (.inr (.inr (D, 0)))))) := by
        unfold m_cRd_readString_B12 m_cRd_readString_J87 m_cRd_readString_J49
        rw [if_neg (nle hlt (by omega)), gl_ok (by omega), hT.2.1.1, gn_s (by omega), hT.at, ob_ok]
        simp only []
        rw [hC.2.2.2, gn_s (by omega), hT.next, nI_s]
      cases hq : bs[q]? with
      | none =>
        right
        rw [strR_n hq] at hS
        subst hS
        refine ⟨.inr (D, 0), ?_, rfl, hT, hQ, fun _ hh => by cases hh⟩
        show m_cRd_readString_B12 N 0 D (nI most) (nI i) = _
        rw [hB, at_none hq, if_neg (by decide), if_pos (by decide)]
      | some b =>
        have hqlt := getq hq
        have hb2 : b < 256 := by
          obtain ⟨g1, g2⟩ := List.getElem?_eq_some_iff.mp hq
          rw [← g2]; exact hb q g1
        rw [at_some hq] at hB
        by_cases e34 : b = 34
        · right
          rw [strR_z hq e34] at hS
          subst hS
          refine ⟨.inr (D, 1), ?_, rfl, hT, hQ, fun d' hh => by rw [← Option.some.inj hh]; exact hC⟩
          show m_cRd_readString_B12 N 0 D (nI most) (nI i) = _
          rw [hB, e34]
          rfl
        · rw [if_neg (show ¬ nI b = 34 from fun e => e34 ((eI (c := 34) hb2 (by omega)).mp e))] at hB
          have l32 : (nI b < 32) ↔ b < 32 := nI_ltI (b := 32) (by omega) (by omega)
          have l126 : (nI b ≤ 126) ↔ b ≤ 126 := nI_leI (b := 126) (by omega) (by omega)
          by_cases ew : b < 32 ∨ 126 < b
          · right
            rw [strR_w hq e34 ew] at hS
            subst hS
            refine ⟨.inr (D, 0), ?_, rfl, hT, hQ, fun _ hh => by cases hh⟩
            show m_cRd_readString_B12 N 0 D (nI most) (nI i) = _
            rw [hB]
            by_cases c32 : b < 32
            · rw [if_pos (l32.mpr c32)]
            · rw [if_neg (fun g => c32 (l32.mp g)), if_neg (fun g => by have := l126.mp g; omega)]
          · rw [if_neg (fun g => ew (Or.inl (l32.mp g))), if_pos (l126.mpr (by omega))] at hB
            rw [show most - i = most - (i + 1) + 1 by omega] at hS
            have hT1 := hT.set (q := q + 1) (by omega)
            have hC1 : CD (D.setI 1 4 0 (nI (q + 1))) e := hC.at
            by_cases e92 : b = 92
            · subst e92
              rw [if_pos (show nI 92 = 92 from rfl)] at hB
              rw [strR_e hq] at hS
              obtain ⟨C', k1, k2, k3, k4⟩ := c_esc hT1 hC1 (by omega)
              rw [k1, ob_ok] at hB
              obtain ⟨g1, g2, g3⟩ := escR_ok hb (p := q + 1) (by omega)
              cases hx : escR bs (q + 1) with
              | mk q2 o =>
                rw [hx] at hS hB k2 k4 g1 g2 g3
                cases o with
                | none =>
                  right
                  subst hS
                  exact ⟨.inr (C', 0), hB, rfl, k2, hQ.trans (Q1_at.trans k3), fun _ hh => by cases hh⟩
                | some c =>
                  left
                  have := (g3 c rfl).1
                  exact ⟨(C', nI most, nI (i + 1)), hB, hlt, by omega, rfl, rfl, hQ.trans (Q1_at.trans k3), q2, e ++ [c], k2, k4 c rfl, by simp only [] at this; simp; omega, hS⟩
            · rw [if_neg (show ¬ nI b = 92 from fun e => e92 ((eI (c := 92) hb2 (by omega)).mp e))] at hB
              rw [strR_p hq e34 ew e92] at hS
              obtain ⟨C', k1, k2, k3, k4⟩ := hC1.put hT1 (by omega) hb2
              rw [k1, ob_ok] at hB
              left
              exact ⟨(C', nI most, nI (i + 1)), hB, hlt, by omega, rfl, rfl, hQ.trans (Q1_at.trans k4), q + 1, e ++ [b], k2, k3, by simp; omega, hS⟩
end JSE
