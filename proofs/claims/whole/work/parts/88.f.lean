/-! JSON: the reference reads strings. -/
section JSF
variable {S S' : MS} {p : Nat} {bs d : List Nat}
theorem bytLt {b : Nat} (hb : ∀ i (hi : i < bs.length), bs[i] < 256) (h : bs[p]? = some b) : b < 256 := by
  obtain ⟨h1, h2⟩ := List.getElem?_eq_some_iff.mp h
  rw [← h2]; exact hb p h1
theorem ST.next (h : ST S bs p) : S.setI 66 (S.i 66 + 1) = S.setI 66 (nI (p + 1)) := by rw [h.2.2.2.1, nI_s]
theorem ST.fr (h : ST S bs p) (h1 : S'.i 6 = S.i 6) (h2 : S'.a 3 = S.a 3) (h3 : S'.i 66 = S.i 66) : ST S' bs p := ⟨by rw [h1]; exact h.1, fun i hi => by rw [h2]; exact h.2.1 i hi, h.2.2.1, by rw [h3]; exact h.2.2.2.1, h.2.2.2.2⟩
theorem s_put {x1 x2 : Int32} {b : Nat} (h : ST S bs p) (hD : SD S d) (h0 : S.i 68 = 0) (hl : d.length < 8300) (hb : b < 256) : ∃ S', m_rstring_J266 S x1 x2 (nI b) = some (.inl (S', x1, x2)) ∧ ST S' bs p ∧ SD S' (d ++ [b]) ∧ QS S S' ∧ S'.i 68 = 0 := by
  unfold m_rstring_J266
  rw [if_pos h0, hD.1, gd_ok (by omega) (by omega), cl_nI (by omega), nI_s]
  refine ⟨_, rfl, h.fr rfl rfl rfl, ⟨by rw [MS.i_setI, if_pos rfl, List.length_append, List.length_singleton], ?_⟩, ⟨fun j a1 a2 a3 => ?_, fun k a1 => ?_, rfl⟩, h0⟩
  · intro i hi
    rw [List.length_append, List.length_singleton] at hi
    show _ ∧ upd (S.a 62) d.length (vp_nar .byte (nI b).toInt8.toInt32) i = _
    unfold upd
    by_cases e : i < d.length
    · rw [List.getElem_append_left e, if_neg (by omega)]
      exact hD.2 i e
    · have e2 : i = d.length := by omega
      subst e2
      rw [List.getElem_concat_length rfl, if_pos rfl]
      refine ⟨hb, ?_⟩
      rw [vp_nar_byte]
      unfold sb
      simp
  · rw [MS.i_setI, if_neg a1, MS.i_setA]
  · rw [MS.a_setI, MS.a_setA, if_neg a1]
theorem s_bad {x1 x2 x3 : Int32} (h : ST S bs p) : m_rstring_J266 (S.setI 68 1) x1 x2 x3 = some (.inr (.inr (S.setI 68 1, x2))) ∧ ST (S.setI 68 1) bs p ∧ QS S (S.setI 68 1) ∧ (S.setI 68 1).i 68 = 1 := by
  have h1 : (S.setI 68 1).i 68 = 1 := by rw [MS.i_setI, if_pos rfl]
  refine ⟨?_, h.fr rfl rfl rfl, QS_setI (by omega), h1⟩
  unfold m_rstring_J266
  rw [if_neg (by rw [h1]; decide)]
theorem SD.at {x : Int32} (h : SD S d) : SD (S.setI 66 x) d := h.fr rfl rfl
theorem s_esc {x1 x2 : Int32} (h : ST S bs p) (hD : SD S d) (h0 : S.i 68 = 0) (hl : d.length < 8300) (h92 : bs[p]? = some 92) (hne : ¬ S.i 65 - x2 = x1) :
    ∃ S', QS S S' ∧ ST S' bs (escR bs (p + 1)).1 ∧ ((∃ c, (escR bs (p + 1)).2 = some c ∧ m_rstring_B5 S x1 x2 = some (.inl (S', x1, x2)) ∧ SD S' (d ++ [c]) ∧ S'.i 68 = 0) ∨ ((escR bs (p + 1)).2 = none ∧ m_rstring_B5 S x1 x2 = some (.inr (.inr (S', x2))) ∧ S'.i 68 = 1)) := by
  have hb := h.b
  have hpl := getq h92
  have hT1 := h.set (q := p + 1) (by omega)
  have hD1 : SD (S.setI 66 (nI (p + 1))) d := hD.at
  have h01 : (S.setI 66 (nI (p + 1))).i 68 = 0 := h0
  unfold m_rstring_B5
  rw [if_pos h0, h.sign, ob_ok]
  simp only []
  rw [h.sign, at_some h92, if_neg (by decide), ob_ok]
  simp only []
  rw [if_neg (show ¬ nI 92 < 32 by decide), if_neg (show ¬ (126 : Int32) < nI 92 by decide), if_neg hne, if_pos (show nI 92 = 92 from rfl), h.next, hT1.sign, ob_ok]
  simp only []
  have hQT : QS S (S.setI 66 (nI (p + 1))) := QS_setI (by omega)
  generalize S.setI 66 (nI (p + 1)) = T at *
  unfold escR
  have bad : ∀ (U : MS) (q : Nat) (x3 : Int32), ST U bs q → m_rstring_J236 (U.setI 68 1) x1 x2 x3 = some (.inr (.inr (U.setI 68 1, x2))) := by
    intro U q x3 hU
    have h1 : (U.setI 68 1).i 68 = 1 := by rw [MS.i_setI, if_pos rfl]
    unfold m_rstring_J236 m_rstring_J253
    rw [if_neg (by rw [h1]; decide)]
    exact (s_bad hU).1
  have good : ∀ (U : MS) (q c : Nat), ST U bs q → q < bs.length → SD U d → U.i 68 = 0 → c < 256 → ∃ S', m_rstring_J236 U x1 x2 (nI c) = some (.inl (S', x1, x2)) ∧ ST S' bs (q + 1) ∧ SD S' (d ++ [c]) ∧ QS U S' ∧ S'.i 68 = 0 := by
    intro U q c hU hql hDU hU0 hc
    obtain ⟨S', k1, k2, k3, k4, k5⟩ := s_put (x1 := x1) (x2 := x2) (hU.set (q := q + 1) (by omega)) (SD.at hDU) (show (U.setI 66 (nI (q + 1))).i 68 = 0 from hU0) hl hc
    refine ⟨S', ?_, k2, k3, (QS_setI (by omega)).trans k4, k5⟩
    unfold m_rstring_J236 m_rstring_J253
    rw [if_pos hU0, hU.next, k1]
  cases hq : bs[p + 1]? with
  | none =>
    rw [at_none hq]
    refine ⟨T.setI 68 1, hQT.trans (QS_setI (by omega)), (s_bad (x1 := 0) (x2 := 0) (x3 := 0) hT1).2.1, Or.inr ⟨rfl, ?_, (s_bad (x1 := 0) (x2 := 0) (x3 := 0) hT1).2.2.2⟩⟩
    rw [if_neg (by decide), if_neg (by decide), if_neg (by decide), if_neg (by decide), if_neg (by decide), if_neg (by decide)]
    exact bad T _ _ hT1
  | some b =>
    have hql := getq hq
    have hb2 := bytLt hb hq
    rw [at_some hq]
    simp only []
    have ne : ∀ {c : Nat}, c < 256 → b ≠ c → ¬ nI b = nI c := fun hc e g => e ((eI hb2 hc).mp g)
    have J201 : ∀ c : Nat, c < 256 → (if nI b = 110 then (10 : Int32) else if nI b = 116 then 9 else nI b) = nI c → ∃ S', m_rstring_J201 T x1 x2 (nI b) = some (.inl (S', x1, x2)) ∧ ST S' bs (p + 1 + 1) ∧ SD S' (d ++ [c]) ∧ QS T S' ∧ S'.i 68 = 0 := by
      intro c hc he
      obtain ⟨S', k1, k2⟩ := good T (p + 1) c hT1 hql hD1 h01 hc
      refine ⟨S', ?_, k2⟩
      unfold m_rstring_J201 m_rstring_J227
      by_cases c1 : nI b = 110
      · rw [if_pos c1] at he ⊢
        rw [he]; exact k1
      · rw [if_neg c1] at he ⊢
        by_cases c2 : nI b = 116
        · rw [if_pos c2] at he ⊢
          rw [he]; exact k1
        · rw [if_neg c2] at he ⊢
          rw [he]; exact k1
    by_cases e120 : b = 120
    · subst e120
      rw [if_pos (show nI 120 = 120 from rfl), if_pos rfl, hT1.next]
      have hT2 := hT1.set (q := p + 1 + 1) (by omega)
      have hD2 : SD (T.setI 66 (nI (p + 1 + 1))) d := hD1.at
      have h02 : (T.setI 66 (nI (p + 1 + 1))).i 68 = 0 := h01
      have hQ2 : QS T (T.setI 66 (nI (p + 1 + 1))) := QS_setI (by omega)
      generalize T.setI 66 (nI (p + 1 + 1)) = U at *
      rw [hT2.sign, ob_ok]
      simp only []
      rw [s_hex hb, ob_ok]
      simp only []
      cases e1 : hx bs (p + 1 + 1) with
      | none =>
        rw [show cI none = -1 from rfl, if_neg (show ¬ (0 : Int32) ≤ -1 by decide)]
        exact ⟨U.setI 68 1, (hQT.trans hQ2).trans (QS_setI (by omega)), (s_bad (x1 := 0) (x2 := 0) (x3 := 0) hT2).2.1, Or.inr ⟨rfl, rfl, (s_bad (x1 := 0) (x2 := 0) (x3 := 0) hT2).2.2.2⟩⟩
      | some u =>
        have hu := hx_in e1
        rw [if_pos (show (0 : Int32) ≤ cI (some u) from (nI_leI (a := 0) (by omega) (by omega)).mpr (Nat.zero_le _)), hT2.next]
        have hT3 := hT2.set (q := p + 1 + 2) (by omega)
        have hD3 : SD (U.setI 66 (nI (p + 1 + 2))) d := hD2.at
        have h03 : (U.setI 66 (nI (p + 1 + 2))).i 68 = 0 := h02
        have hQ3 : QS U (U.setI 66 (nI (p + 1 + 2))) := QS_setI (by omega)
        rw [show p + 1 + 1 + 1 = p + 1 + 2 from rfl]
        generalize U.setI 66 (nI (p + 1 + 2)) = V at *
        rw [hT3.sign, ob_ok]
        simp only []
        rw [s_hex hb, ob_ok]
        simp only []
        cases e2 : hx bs (p + 1 + 2) with
        | none =>
          rw [show cI none = -1 from rfl, if_neg (show ¬ (0 : Int32) ≤ -1 by decide)]
          refine ⟨V.setI 68 1, ((hQT.trans hQ2).trans hQ3).trans (QS_setI (by omega)), (s_bad (x1 := 0) (x2 := 0) (x3 := 0) hT3).2.1, Or.inr ⟨rfl, ?_, (s_bad (x1 := 0) (x2 := 0) (x3 := 0) hT3).2.2.2⟩⟩
          unfold m_rstring_J163
          exact bad V _ _ hT3
        | some v =>
          have hv := hx_in e2
          rw [if_pos (show (0 : Int32) ≤ cI (some v) from (nI_leI (a := 0) (by omega) (by omega)).mpr (Nat.zero_le _))]
          obtain ⟨S', k1, k2, k3, k4, k5⟩ := good V (p + 1 + 2) (16 * u + v) hT3 (by omega) hD3 h03 (by omega)
          refine ⟨S', ((hQT.trans hQ2).trans hQ3).trans k4, k2, Or.inl ⟨16 * u + v, rfl, ?_, k3, k5⟩⟩
          unfold m_rstring_J163
          rw [show (16 : Int32) * cI (some u) + cI (some v) = nI (16 * u + v) from by show (16 : Int32) * nI u + nI v = _; rw [mul16, nI_add]]
          exact k1
    · rw [if_neg (show ¬ nI b = 120 from ne (c := 120) (by omega) e120), if_neg e120]
      by_cases e110 : b = 110
      · obtain ⟨S', k1, k2, k3, k4, k5⟩ := J201 10 (by omega) (by rw [e110]; rfl)
        rw [if_pos (show nI b = 110 by rw [e110]; rfl), if_pos e110]
        exact ⟨S', hQT.trans k4, k2, Or.inl ⟨10, rfl, k1, k3, k5⟩⟩
      · rw [if_neg (show ¬ nI b = 110 from ne (c := 110) (by omega) e110), if_neg e110]
        by_cases e116 : b = 116
        · obtain ⟨S', k1, k2, k3, k4, k5⟩ := J201 9 (by omega) (by rw [e116]; rfl)
          rw [if_pos (show nI b = 116 by rw [e116]; rfl), if_pos e116]
          exact ⟨S', hQT.trans k4, k2, Or.inl ⟨9, rfl, k1, k3, k5⟩⟩
        · rw [if_neg (show ¬ nI b = 116 from ne (c := 116) (by omega) e116), if_neg e116]
          by_cases e3 : b = 34 ∨ b = 92 ∨ b = 47
          · obtain ⟨S', k1, k2, k3, k4, k5⟩ := J201 b hb2 (by rw [if_neg (show ¬ nI b = 110 from ne (c := 110) (by omega) e110), if_neg (show ¬ nI b = 116 from ne (c := 116) (by omega) e116)])
            rw [if_pos e3]
            refine ⟨S', hQT.trans k4, k2, Or.inl ⟨b, rfl, ?_, k3, k5⟩⟩
            rcases e3 with e | e | e
            · rw [if_pos (show nI b = 34 by rw [e]; rfl), k1]
            · rw [if_neg (show ¬ nI b = 34 by rw [e]; decide), if_pos (show nI b = 92 by rw [e]; rfl), k1]
            · rw [if_neg (show ¬ nI b = 34 by rw [e]; decide), if_neg (show ¬ nI b = 92 by rw [e]; decide), if_pos (show nI b = 47 by rw [e]; rfl), k1]
          · rw [if_neg e3, if_neg (show ¬ nI b = 34 from ne (c := 34) (by omega) (fun e => e3 (Or.inl e))), if_neg (show ¬ nI b = 92 from ne (c := 92) (by omega) (fun e => e3 (Or.inr (Or.inl e)))), if_neg (show ¬ nI b = 47 from ne (c := 47) (by omega) (fun e => e3 (Or.inr (Or.inr e))))]
            exact ⟨T.setI 68 1, hQT.trans (QS_setI (by omega)), (s_bad (x1 := 0) (x2 := 0) (x3 := 0) hT1).2.1, Or.inr ⟨rfl, bad T _ _ hT1, (s_bad (x1 := 0) (x2 := 0) (x3 := 0) hT1).2.2.2⟩⟩
theorem s_str (h : ST S bs p) (hD : SD S d) (h0 : S.i 68 = 0) (hd : d.length ≤ p) {most : Nat} (hm : most ≤ 1024) : ∃ S', m_rstring S (nI most) = some (S', nI d.length) ∧ ST S' bs (strR bs most p d).1 ∧ QS S S' ∧ ((∃ d', (strR bs most p d).2 = some d' ∧ S'.i 68 = 0 ∧ SD S' d') ∨ ((strR bs most p d).2 = none ∧ S'.i 68 = 1)) := by
  have hb := h.b
  have h8 := h.2.2.1
  generalize hR : strR bs most p d = R
  have := lp_run (body := fun a : MS × Int32 × Int32 => m_rstring_B5 a.1 a.2.1 a.2.2)
    (fun i u => i ≤ most ∧ u.2.1 = nI most ∧ u.2.2 = nI d.length ∧ QS S u.1 ∧ u.1.i 68 = 0 ∧ ∃ q e, ST u.1 bs q ∧ SD u.1 e ∧ e.length ≤ q ∧ e.length = d.length + i ∧ strR bs (most - i) q e = R)
    (fun e => (match e with
      | .inl o => o
      | .inr o => o).2 = nI d.length ∧ ST (match e with
      | .inl o => o
      | .inr o => o).1 bs R.1 ∧ QS S (match e with
      | .inl o => o
      | .inr o => o).1 ∧ ((∃ d', R.2 = some d' ∧ (match e with
      | .inl o => o
      | .inr o => o).1.i 68 = 0 ∧ SD (match e with
      | .inl o => o
      | .inr o => o).1 d') ∨ (R.2 = none ∧ (match e with
      | .inl o => o
      | .inr o => o).1.i 68 = 1))) most ?_ FU (S, nI most, nI d.length) (by unfold FU; omega) ⟨Nat.zero_le _, rfl, rfl, QS.refl, h0, p, d, h, hD, hd, rfl, hR⟩
  · obtain ⟨e, h1, h2⟩ := this
    unfold m_rstring m_rstring_J0 m_rstring_J299
    rw [hD.1, show m_rstring_L5 S (nI most) (nI d.length) = _ by unfold m_rstring_L5; exact h1]
    cases e with
    | inr o =>
      rw [oe_r]
      exact ⟨o.1, by rw [← h2.1], h2.2.1, h2.2.2.1, h2.2.2.2⟩
    | inl o =>
      rw [oe_l]
      exact ⟨o.1, by rw [← h2.1], h2.2.1, h2.2.2.1, h2.2.2.2⟩
  · rintro i ⟨T, _, _⟩ hi ⟨him, rfl, rfl, hQ, hT0, q, e, hT, hC, hel, hel2, hS⟩
    simp only [] at hQ hT0 hT hC
    show (∃ a', m_rstring_B5 T (nI most) (nI d.length) = _ ∧ _) ∨ _
    have hql := hT.2.2.2.2
    have hdif : T.i 65 - nI d.length = nI i := by rw [hC.1, hel2, sub_nI (by omega), Nat.add_sub_cancel_left]
    have hB : m_rstring_B5 T (nI most) (nI d.length) = (if atI bs q = 34 then some (.inr (.inl (T, nI d.length))) else if atI bs q < 32 then m_rstring_J54 T (nI most) (nI d.length) (atI bs q) else (if 126 < atI bs q then m_rstring_J54 T (nI most) (nI d.length) (atI bs q) else (if nI i = nI most then m_rstring_J54 T (nI most) (nI d.length) (atI bs q) else (if atI bs q = 92 then m_rstring_B5 T (nI most) (nI d.length) else m_rstring_J266 (T.setI 66 (nI (q + 1))) (nI most) (nI d.length) (atI bs q))))) := by
      by_cases c : atI bs q = 92 ∧ ¬ nI i = nI most
      · rw [if_neg (by rw [c.1]; decide), if_neg (by rw [c.1]; decide), if_neg (by rw [c.1]; decide), if_neg c.2, if_pos c.1]
      · conv => lhs; unfold m_rstring_B5
        rw [if_pos hT0, hT.sign, ob_ok]
        simp only []
        rw [hT.sign, ob_ok]
        simp only []
        rw [hT.next, hdif]
        by_cases c2 : nI i = nI most
        · rw [if_pos c2, if_pos c2]
        · rw [if_neg c2, if_neg c2, if_neg (fun e => c ⟨e, c2⟩), if_neg (fun e => c ⟨e, c2⟩)]
    have bad : ∀ x3 : Int32, m_rstring_J54 T (nI most) (nI d.length) x3 = some (.inr (.inr (T.setI 68 1, nI d.length))) := fun x3 => (s_bad hT).1
    have hbad := s_bad (x1 := 0) (x2 := 0) (x3 := 0) hT
    cases hq : bs[q]? with
    | none =>
      right
      rw [strR_n hq] at hS
      subst hS
      refine ⟨.inr (T.setI 68 1, nI d.length), ?_, rfl, hbad.2.1, hQ.trans hbad.2.2.1, Or.inr ⟨rfl, hbad.2.2.2⟩⟩
      show m_rstring_B5 T (nI most) (nI d.length) = _
      rw [hB, at_none hq, if_neg (by decide), if_pos (by decide), bad]
    | some b =>
      have hqlt := getq hq
      have hb2 := bytLt hb hq
      rw [at_some hq] at hB
      by_cases e34 : b = 34
      · right
        rw [strR_z hq e34] at hS
        subst hS
        refine ⟨.inl (T, nI d.length), ?_, rfl, hT, hQ, Or.inl ⟨e, rfl, hT0, hC⟩⟩
        show m_rstring_B5 T (nI most) (nI d.length) = _
        rw [hB, if_pos (show nI b = 34 by rw [e34]; rfl)]
      · rw [if_neg (show ¬ nI b = 34 from fun e => e34 ((eI (c := 34) hb2 (by omega)).mp e))] at hB
        have l32 : (nI b < 32) ↔ b < 32 := nI_ltI (b := 32) (by omega) (by omega)
        have l126 : ((126 : Int32) < nI b) ↔ 126 < b := nI_ltI (a := 126) (by omega) (by omega)
        by_cases ew : b < 32 ∨ 126 < b
        · right
          rw [strR_w hq e34 ew] at hS
          subst hS
          refine ⟨.inr (T.setI 68 1, nI d.length), ?_, rfl, hbad.2.1, hQ.trans hbad.2.2.1, Or.inr ⟨rfl, hbad.2.2.2⟩⟩
          show m_rstring_B5 T (nI most) (nI d.length) = _
          rw [hB]
          by_cases c32 : b < 32
          · rw [if_pos (l32.mpr c32), bad]
          · rw [if_neg (fun g => c32 (l32.mp g)), if_pos (l126.mpr (by omega)), bad]
        · rw [if_neg (fun g => ew (Or.inl (l32.mp g))), if_neg (fun g => ew (Or.inr (l126.mp g)))] at hB
          by_cases ci : i = most
          · right
            subst ci
            rw [Nat.sub_self] at hS
            unfold strR at hS
            rw [hq, if_neg (fun g => e34 (Option.some.inj g))] at hS
            subst hS
            refine ⟨.inr (T.setI 68 1, nI d.length), ?_, rfl, hbad.2.1, hQ.trans hbad.2.2.1, Or.inr ⟨rfl, hbad.2.2.2⟩⟩
            show m_rstring_B5 T (nI i) (nI d.length) = _
            rw [hB, if_pos rfl, bad]
          · have hlt : i < most := by omega
            rw [if_neg (fun g => ci ((nI_eq (by omega) (by omega)).mp g))] at hB
            rw [show most - i = most - (i + 1) + 1 by omega] at hS
            by_cases e92 : b = 92
            · subst e92
              rw [strR_e hq] at hS
              obtain ⟨S', k1, k2, k3⟩ := s_esc (x1 := nI most) (x2 := nI d.length) hT hC hT0 (by omega) hq (by rw [hdif]; exact fun g => ci ((nI_eq (by omega) (by omega)).mp g))
              obtain ⟨g1, g2, g3⟩ := escR_ok hb (p := q + 1) (by omega)
              cases hx : escR bs (q + 1) with
              | mk q2 o =>
                rw [hx] at hS k2 k3 g1 g2 g3
                cases o with
                | none =>
                  right
                  subst hS
                  rcases k3 with ⟨c, c1, _⟩ | ⟨_, c2, c3⟩
                  · cases c1
                  · exact ⟨.inr (S', nI d.length), c2, rfl, k2, hQ.trans k1, Or.inr ⟨rfl, c3⟩⟩
                | some c =>
                  left
                  have := (g3 c rfl).1
                  simp only [] at this
                  rcases k3 with ⟨c', c1, c2, c3, c4⟩ | ⟨c1, _⟩
                  · obtain rfl := Option.some.inj c1
                    exact ⟨(S', nI most, nI d.length), c2, hlt, by omega, rfl, rfl, hQ.trans k1, c4, q2, e ++ [c], k2, c3, by simp; omega, by simp; omega, hS⟩
                  · cases c1
            · rw [if_neg (show ¬ nI b = 92 from fun e => e92 ((eI (c := 92) hb2 (by omega)).mp e))] at hB
              rw [strR_p hq e34 ew e92] at hS
              obtain ⟨S', k1, k2, k3, k4, k5⟩ := s_put (x1 := nI most) (x2 := nI d.length) (hT.set (q := q + 1) (by omega)) (SD.at hC) (show (T.setI 66 (nI (q + 1))).i 68 = 0 from hT0) (by omega) hb2
              rw [k1] at hB
              left
              exact ⟨(S', nI most, nI d.length), hB, hlt, by omega, rfl, rfl, hQ.trans ((QS_setI (by omega)).trans k4), k5, q + 1, e ++ [b], k2, k3, by simp; omega, by simp; omega, hS⟩
end JSF
