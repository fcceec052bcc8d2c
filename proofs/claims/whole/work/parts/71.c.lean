/-! THE READING CALLS: letter, key. -/
section CRF
variable {S S' : MS} {N : Nat → Nat} {C C' : CS} {A : AS} {r rd : Nat} {bi bf bs bo : List Nat} {ji jf js a : Nat}
theorem m1lt1 : (-nI 1 < -nI 1) ↔ False := by decide
theorem m1ltn {n : Nat} (h : n < 2 ^ 31) : (-nI 1 < nI n) ↔ True := by
  refine iff_true_intro (Int32.lt_iff_toInt_lt.mpr ?_)
  rw [nI_toInt (by omega), show (-nI 1).toInt = -1 from by decide]
  omega
/-- a byte of a string -/
theorem pS_letterL (hR : RS S A) (hA : AI A) (hr : r < 8) (i x : Int32) :
    (∃ o k, ∃ h : k < (A.str o).length, o < A.n ∧ A.inV r o = true ∧ i = nI (A.id o) ∧ x = nI k ∧ m_rletter_L16 S (nI r) i x (nI 0) = some (.inr (S.setI 0 (nI 0), nI (A.str o)[k]))) ∨
    ((∀ o k, o < A.n → A.inV r o = true → i = nI (A.id o) → k < (A.str o).length → x ≠ nI k) ∧ m_rletter_L16 S (nI r) i x (nI 0) = some (.inl S)) := by
  have hn := hA.1.1
  have hkn := hA.1.2.2.1
  have := lp_run (body := fun a : MS × Int32 × Int32 × Int32 × Int32 => m_rletter_B16 a.1 a.2.1 a.2.2.1 a.2.2.2.1 a.2.2.2.2) (fun e a => a = (S, nI r, i, x, nI e) ∧ ∀ o k, o < e → A.inV r o = true → i = nI (A.id o) → k < (A.str o).length → x ≠ nI k)
    (fun w => (∃ o k, ∃ h : k < (A.str o).length, o < A.n ∧ A.inV r o = true ∧ i = nI (A.id o) ∧ x = nI k ∧ w = .inr (S.setI 0 (nI 0), nI (A.str o)[k])) ∨ ((∀ o k, o < A.n → A.inV r o = true → i = nI (A.id o) → k < (A.str o).length → x ≠ nI k) ∧ w = .inl S)) A.n ?_ FU (S, nI r, i, x, nI 0) (by unfold FU; omega) ⟨rfl, by intro o k h; omega⟩
  · obtain ⟨w, h4, h5⟩ := this
    have h4' : m_rletter_L16 S (nI r) i x (nI 0) = some w := h4
    rw [h4']
    rcases h5 with ⟨o, k, h, h1, h2, h3, h6, rfl⟩ | ⟨h6, rfl⟩
    · exact Or.inl ⟨o, k, h, h1, h2, h3, h6, rfl⟩
    · exact Or.inr ⟨h6, rfl⟩
  · rintro e _ he ⟨rfl, hk⟩
    unfold m_rletter_B16 m_rletter_J99
    simp only [hR.1.1]
    by_cases hin : e < A.n
    · have hop := rop hR hA e hin
      have htx := hR.2.2.1 e hin
      have hact := (hA.2.2.1.1 e hin).2.2.2.2.1
      have hsl := htx.2.2.2.2.2.1
      simp (disch := omega) only [gd_ok, cl_nI, nI_s, nI_add, nI_leI, nI_ltI, nI_eq, if_pos, if_neg, q0, q1, q2, q3, q4, q5, q6, q7, q8, q9, q10, MS.i_setI, MS.a_setI, MS.n_setI, MS.i_setA, MS.a_setA, MS.n_setA, MS.i_setN, MS.a_setN, MS.n_setN, ↓reduceIte, Nat.reduceEqDiff, b2_0, b2_1, b2_nn, n0_or, n1_or, n10, n01, dec1, dec2, ob_ok, oe_l, oe_r,hop.1, hop.2.2.2.1, htx.2.2.2.1, pS_in hR hA hr hin]
      -- the next op
      have nxt : (∀ k, A.inV r e = true → i = nI (A.id e) → k < (A.str e).length → x ≠ nI k) → ∀ o k, o < e + 1 → A.inV r o = true → i = nI (A.id o) → k < (A.str o).length → x ≠ nI k := by
        intro h o k ho
        by_cases eo : o = e
        · subst eo; exact h k
        · exact hk o k (by omega)
      by_cases c1 : nI (A.id e) = i
      · rw [if_pos c1]
        by_cases c2 : A.inV r e = false
        · rw [if_pos c2]
          exact Or.inl ⟨_, rfl, hin, rfl, nxt (fun k h => by rw [c2] at h; cases h)⟩
        · rw [if_neg c2]
          by_cases c3 : A.act e = 4
          · rw [if_pos c3]
            by_cases c4 : x < nI 0
            · rw [if_pos c4]
              refine Or.inl ⟨_, rfl, hin, rfl, nxt (fun k _ _ hk2 hx => ?_)⟩
              rw [hx, nI_ltI (by omega) (by omega)] at c4
              omega
            · rw [if_neg c4]
              obtain ⟨k, hk31, rfl⟩ := nI_of c4
              by_cases c5 : k < (A.str e).length
              · right
                have hne : A.str e ≠ [] := fun h => by rw [h] at c5; simp at c5
                have hby := htx.2.2.2.2.2.2.2 k c5
                simp (disch := omega) only [gd_ok, cl_nI, nI_s, nI_add, nI_leI, nI_ltI, nI_eq, if_pos, if_neg, q0, q1, q2, q3, q4, q5, q6, q7, q8, q9, q10, MS.i_setI, MS.a_setI, MS.n_setI, MS.i_setA, MS.a_setA, MS.n_setA, MS.i_setN, MS.a_setN, MS.n_setN, ↓reduceIte, Nat.reduceEqDiff, b2_0, b2_1, b2_nn, n0_or, n1_or, n10, n01, dec1, dec2, ob_ok, oe_l, oe_r,htx.2.2.1 hne, hby.2, q255, sb_and hby.1]
                exact ⟨_, rfl, Or.inl ⟨e, k, c5, hin, by simpa using c2, c1.symm, rfl, rfl⟩⟩
              · simp (disch := omega) only [gd_ok, cl_nI, nI_s, nI_add, nI_leI, nI_ltI, nI_eq, if_pos, if_neg, q0, q1, q2, q3, q4, q5, q6, q7, q8, q9, q10, MS.i_setI, MS.a_setI, MS.n_setI, MS.i_setA, MS.a_setA, MS.n_setA, MS.i_setN, MS.a_setN, MS.n_setN, ↓reduceIte, Nat.reduceEqDiff, b2_0, b2_1, b2_nn, n0_or, n1_or, n10, n01, dec1, dec2, ob_ok, oe_l, oe_r]
                refine Or.inl ⟨_, rfl, hin, rfl, nxt (fun k' _ _ hk2 hx => ?_)⟩
                rw [nI_eq (by omega) (by omega)] at hx
                omega
          · rw [if_neg c3]
            refine Or.inl ⟨_, rfl, hin, rfl, nxt (fun k _ _ hk2 => ?_)⟩
            rw [htx.2.2.2.2.1 c3] at hk2
            simp at hk2
      · rw [if_neg c1]
        exact Or.inl ⟨_, rfl, hin, rfl, nxt (fun k _ h => absurd h.symm c1)⟩
    · right
      simp (disch := omega) only [gd_ok, cl_nI, nI_s, nI_add, nI_leI, nI_ltI, nI_eq, if_pos, if_neg, q0, q1, q2, q3, q4, q5, q6, q7, q8, q9, q10, MS.i_setI, MS.a_setI, MS.n_setI, MS.i_setA, MS.a_setA, MS.n_setA, MS.i_setN, MS.a_setN, MS.n_setN, ↓reduceIte, Nat.reduceEqDiff, b2_0, b2_1, b2_nn, n0_or, n1_or, n10, n01, dec1, dec2, ob_ok, oe_l, oe_r]
      refine ⟨_, rfl, Or.inr ⟨fun o k ho => hk o k (by omega), rfl⟩⟩
theorem call_letter (hI : INV S N C A rd) (hrd : rd + 60000 < 2 ^ 30) (x1 x2 x3 : Int32) : RLIKE [(1, 1), (3, 2)] A rd N (m_cJT_letter N 0 C x1 x2 x3) (m_rletter S x1 x2 x3) := by
  obtain ⟨hR, G, hA, bi, bf, bs, bo, ji, jf, js, a, hio⟩ := hI
  obtain ⟨u0, u1, u2, u3, u4, u5, u6, u7, u8, u9, u10, u11, u12, u13, u14, u15, u16, u17, u18⟩ := G.nn
  obtain ⟨s1, s2, s3, s4, s5, s6, s7, s8, s9, s10, s11, s12, s13, s14, s15, s16, s17, s18, s19, s20, s21⟩ := G.st
  have hnn := hA.1.1
  have hkn := hA.1.2.2.1
  unfold m_cJT_letter m_cJT_letter_J0 m_rletter m_rletter_J0
  rcases rep_or x1 with hx1 | ⟨r, hr, rfl⟩
  · refine rlikeT (t := 1) (k := 1) (C' := C) (S1 := S) (v := nI 0) ?_ ?_ rfl hR G hA hio (Nat.le_refl _) (by omega)
    · simp (disch := omega) only [gd_ok, cl_nI, nI_s, nI_add, nI_leI, nI_ltI, nI_eq, if_pos, if_neg, q0, q1, q2, q3, q4, q5, q6, q7, q8, q9, q10, CS.i_setI, CS.l_setI, CS.r_setI, CS.a_setI, CS.q_setI, CS.z_setI, CS.i_setL, CS.l_setL, CS.r_setL, CS.a_setL, CS.q_setL, CS.z_setL, CS.i_setR, CS.l_setR, CS.r_setR, CS.a_setR, CS.q_setR, CS.z_setR, CS.i_setA, CS.l_setA, CS.r_setA, CS.a_setA, CS.q_setA, CS.z_setA, CS.i_setQ, CS.l_setQ, CS.r_setQ, CS.a_setQ, CS.q_setQ, CS.z_setQ, CS.i_setF, CS.l_setF, CS.r_setF, CS.a_setF, CS.q_setF, CS.z_setF, CS.i_new, CS.l_new, CS.r_new, CS.a_new, CS.q_new, CS.z_new, Nat.reduceEqDiff, false_and, true_and, and_false, and_true, if_true, if_false, b2_0, b2_1, b2_nn, n0_or, n1_or, n10, n01, dec1, dec2, ob_ok, oe_l, oe_r, gl_ok, gle_ok, gn_s, gv_ok, gv_none, on_none, onSome,u11, cJ_shownN hx1]
    · simp (disch := omega) only [gd_ok, cl_nI, nI_s, nI_add, nI_leI, nI_ltI, nI_eq, if_pos, if_neg, q0, q1, q2, q3, q4, q5, q6, q7, q8, q9, q10, MS.i_setI, MS.a_setI, MS.n_setI, MS.i_setA, MS.a_setA, MS.n_setA, MS.i_setN, MS.a_setN, MS.n_setN, ↓reduceIte, Nat.reduceEqDiff, b2_0, b2_1, b2_nn, n0_or, n1_or, n10, n01, dec1, dec2, ob_ok, oe_l, oe_r,pS_isN hx1, pS_no]
  · obtain ⟨C2, hsh, G2, hv2, hfr2⟩ := cJ_shown G hA hr
    have hio2 := hio.fr frS.refl hfr2
    have hvw : C2.r 11 2 0 = some 0 := G2.st.2.2.1
    have hst : C2.r 11 0 0 = some 0 := G2.st.1
    have hkp : C2.r 8 2 0 = some 0 := G2.st.2.2.2.2.2.2.2.2.2.1
    have hpl := pS_letterL hR hA hr x2 x3
    have hbad : (∀ o k, o < A.n → A.inV r o = true → x2 = nI (A.id o) → k < (A.str o).length → x3 ≠ nI k) → m_cJT_letter N 0 C (nI r) x2 x3 = some (.inr (C2, 3)) := by
      intro hno
      unfold m_cJT_letter m_cJT_letter_J0 m_cJT_letter_J34
      rcases cV_opAt G2 hA hv2 x2 with ⟨h0, hop⟩ | ⟨o, ho, hov, he, hop⟩ | ⟨h0, hno, hop⟩
      · simp (disch := omega) only [gd_ok, cl_nI, nI_s, nI_add, nI_leI, nI_ltI, nI_eq, if_pos, if_neg, q0, q1, q2, q3, q4, q5, q6, q7, q8, q9, q10, CS.i_setI, CS.l_setI, CS.r_setI, CS.a_setI, CS.q_setI, CS.z_setI, CS.i_setL, CS.l_setL, CS.r_setL, CS.a_setL, CS.q_setL, CS.z_setL, CS.i_setR, CS.l_setR, CS.r_setR, CS.a_setR, CS.q_setR, CS.z_setR, CS.i_setA, CS.l_setA, CS.r_setA, CS.a_setA, CS.q_setA, CS.z_setA, CS.i_setQ, CS.l_setQ, CS.r_setQ, CS.a_setQ, CS.q_setQ, CS.z_setQ, CS.i_setF, CS.l_setF, CS.r_setF, CS.a_setF, CS.q_setF, CS.z_setF, CS.i_new, CS.l_new, CS.r_new, CS.a_new, CS.q_new, CS.z_new, Nat.reduceEqDiff, false_and, true_and, and_false, and_true, if_true, if_false, b2_0, b2_1, b2_nn, n0_or, n1_or, n10, n01, dec1, dec2, ob_ok, oe_l, oe_r, gl_ok, gle_ok, gn_s, gv_ok, gv_none, on_none, onSome,u11, u3, u10, hsh, hvw, hop, G2.rt.2.2.2.2.2]
        by_cases c : x3 < nI 0
        · rw [if_pos c]
        · rw [if_neg c]
      · have hopc := G2.op o ho
        have hkb := (G2.kp.2 o ho).1
        simp (disch := omega) only [gd_ok, cl_nI, nI_s, nI_add, nI_leI, nI_ltI, nI_eq, if_pos, if_neg, q0, q1, q2, q3, q4, q5, q6, q7, q8, q9, q10, CS.i_setI, CS.l_setI, CS.r_setI, CS.a_setI, CS.q_setI, CS.z_setI, CS.i_setL, CS.l_setL, CS.r_setL, CS.a_setL, CS.q_setL, CS.z_setL, CS.i_setR, CS.l_setR, CS.r_setR, CS.a_setR, CS.q_setR, CS.z_setR, CS.i_setA, CS.l_setA, CS.r_setA, CS.a_setA, CS.q_setA, CS.z_setA, CS.i_setQ, CS.l_setQ, CS.r_setQ, CS.a_setQ, CS.q_setQ, CS.z_setQ, CS.i_setF, CS.l_setF, CS.r_setF, CS.a_setF, CS.q_setF, CS.z_setF, CS.i_new, CS.l_new, CS.r_new, CS.a_new, CS.q_new, CS.z_new, Nat.reduceEqDiff, false_and, true_and, and_false, and_true, if_true, if_false, b2_0, b2_1, b2_nn, n0_or, n1_or, n10, n01, dec1, dec2, ob_ok, oe_l, oe_r, gl_ok, gle_ok, gn_s, gv_ok, gv_none, on_none, onSome,u11, u3, u10, hsh, hvw, hop, hopc.2.2.2.2.2.2.2.2.2.1]
        by_cases c : x3 < nI 0
        · rw [if_pos c]
        · rw [if_neg c]
          obtain ⟨k, hk31, rfl⟩ := nI_of c
          have hk2 : ¬ k < (A.str o).length := fun h => hno o k ho hov he h rfl
          simp (disch := omega) only [gd_ok, cl_nI, nI_s, nI_add, nI_leI, nI_ltI, nI_eq, if_pos, if_neg, q0, q1, q2, q3, q4, q5, q6, q7, q8, q9, q10, CS.i_setI, CS.l_setI, CS.r_setI, CS.a_setI, CS.q_setI, CS.z_setI, CS.i_setL, CS.l_setL, CS.r_setL, CS.a_setL, CS.q_setL, CS.z_setL, CS.i_setR, CS.l_setR, CS.r_setR, CS.a_setR, CS.q_setR, CS.z_setR, CS.i_setA, CS.l_setA, CS.r_setA, CS.a_setA, CS.q_setA, CS.z_setA, CS.i_setQ, CS.l_setQ, CS.r_setQ, CS.a_setQ, CS.q_setQ, CS.z_setQ, CS.i_setF, CS.l_setF, CS.r_setF, CS.a_setF, CS.q_setF, CS.z_setF, CS.i_new, CS.l_new, CS.r_new, CS.a_new, CS.q_new, CS.z_new, Nat.reduceEqDiff, false_and, true_and, and_false, and_true, if_true, if_false, b2_0, b2_1, b2_nn, n0_or, n1_or, n10, n01, dec1, dec2, ob_ok, oe_l, oe_r, gl_ok, gle_ok, gn_s, gv_ok, gv_none, on_none, onSome]
      · simp (disch := omega) only [gd_ok, cl_nI, nI_s, nI_add, nI_leI, nI_ltI, nI_eq, if_pos, if_neg, q0, q1, q2, q3, q4, q5, q6, q7, q8, q9, q10, CS.i_setI, CS.l_setI, CS.r_setI, CS.a_setI, CS.q_setI, CS.z_setI, CS.i_setL, CS.l_setL, CS.r_setL, CS.a_setL, CS.q_setL, CS.z_setL, CS.i_setR, CS.l_setR, CS.r_setR, CS.a_setR, CS.q_setR, CS.z_setR, CS.i_setA, CS.l_setA, CS.r_setA, CS.a_setA, CS.q_setA, CS.z_setA, CS.i_setQ, CS.l_setQ, CS.r_setQ, CS.a_setQ, CS.q_setQ, CS.z_setQ, CS.i_setF, CS.l_setF, CS.r_setF, CS.a_setF, CS.q_setF, CS.z_setF, CS.i_new, CS.l_new, CS.r_new, CS.a_new, CS.q_new, CS.z_new, Nat.reduceEqDiff, false_and, true_and, and_false, and_true, if_true, if_false, b2_0, b2_1, b2_nn, n0_or, n1_or, n10, n01, dec1, dec2, ob_ok, oe_l, oe_r, gl_ok, gle_ok, gn_s, gv_ok, gv_none, on_none, onSome,u11, u3, u10, hsh, hvw, hop]
    rcases hpl with ⟨o, k, h, ho, hov, rfl, rfl, hpl⟩ | ⟨hno, hpl⟩
    · have hopc := G2.op o ho
      have hkb := G2.kp.2 o ho
      have hby := hkb.2.2.1 k h
      have hkb1 := hkb.1
      have hat := cR_at (i := A.ba o + (A.key o).length + k) u5 u13 (G2.kept hA) (by omega)
      rw [hby.2, sb_and hby.1] at hat
      refine rlikeV (C' := C2) (S1 := S) (v := nI (A.str o)[k]) ?_ ?_ hR G2 hA hio2 (Nat.le_refl _) (by omega)
      · rcases cV_opAt G2 hA hv2 (nI (A.id o)) with ⟨h0, hop⟩ | ⟨o', ho', hov', he, hop⟩ | ⟨h0, hno, hop⟩
        · exfalso
          have h1 := id_lt hA ho
          rw [nI_eq (by omega) (by omega)] at h0
          have hi := hA.2.2.1.1 o ho
          have := hi.1
          have := hi.2.1
          have := hi.2.2.1
          have := hi.2.2.2.1
          omega
        · have h1 := id_lt hA ho
          have h2 := id_lt hA ho'
          have h3 := inV_inj hA ho ho' hov hov' ((nI_eq (by omega) (by omega)).mp he)
          subst h3
          simp (disch := omega) only [gd_ok, cl_nI, nI_s, nI_add, nI_leI, nI_ltI, nI_eq, if_pos, if_neg, q0, q1, q2, q3, q4, q5, q6, q7, q8, q9, q10, CS.i_setI, CS.l_setI, CS.r_setI, CS.a_setI, CS.q_setI, CS.z_setI, CS.i_setL, CS.l_setL, CS.r_setL, CS.a_setL, CS.q_setL, CS.z_setL, CS.i_setR, CS.l_setR, CS.r_setR, CS.a_setR, CS.q_setR, CS.z_setR, CS.i_setA, CS.l_setA, CS.r_setA, CS.a_setA, CS.q_setA, CS.z_setA, CS.i_setQ, CS.l_setQ, CS.r_setQ, CS.a_setQ, CS.q_setQ, CS.z_setQ, CS.i_setF, CS.l_setF, CS.r_setF, CS.a_setF, CS.q_setF, CS.z_setF, CS.i_new, CS.l_new, CS.r_new, CS.a_new, CS.q_new, CS.z_new, Nat.reduceEqDiff, false_and, true_and, and_false, and_true, if_true, if_false, b2_0, b2_1, b2_nn, n0_or, n1_or, n10, n01, dec1, dec2, ob_ok, oe_l, oe_r, gl_ok, gle_ok, gn_s, gv_ok, gv_none, on_none, onSome,u11, u3, u10, u8, u5, hst, hkp, hsh, hvw, hop, hopc.2.2.2.2.2.2.2.2.2.1, hopc.2.2.2.2.2.2.2.2.1, hopc.2.2.2.2.2.2.2.1, hat]
        · exact absurd rfl (hno o ho hov)
      · simp (disch := omega) only [gd_ok, cl_nI, nI_s, nI_add, nI_leI, nI_ltI, nI_eq, if_pos, if_neg, q0, q1, q2, q3, q4, q5, q6, q7, q8, q9, q10, MS.i_setI, MS.a_setI, MS.n_setI, MS.i_setA, MS.a_setA, MS.n_setA, MS.i_setN, MS.a_setN, MS.n_setN, ↓reduceIte, Nat.reduceEqDiff, b2_0, b2_1, b2_nn, n0_or, n1_or, n10, n01, dec1, dec2, ob_ok, oe_l, oe_r,pS_isR hr, hpl]
    · have hb := hbad hno
      unfold m_cJT_letter m_cJT_letter_J0 at hb
      refine rlikeT (t := 3) (k := 2) (C' := C2) (S1 := S) (v := nI 0) hb ?_ rfl hR G2 hA hio2 (Nat.le_refl _) (by omega)
      simp (disch := omega) only [gd_ok, cl_nI, nI_s, nI_add, nI_leI, nI_ltI, nI_eq, if_pos, if_neg, q0, q1, q2, q3, q4, q5, q6, q7, q8, q9, q10, MS.i_setI, MS.a_setI, MS.n_setI, MS.i_setA, MS.a_setA, MS.n_setA, MS.i_setN, MS.a_setN, MS.n_setN, ↓reduceIte, Nat.reduceEqDiff, b2_0, b2_1, b2_nn, n0_or, n1_or, n10, n01, dec1, dec2, ob_ok, oe_l, oe_r,pS_isR hr, hpl, pS_no]
set_option maxHeartbeats 4000000 in
theorem call_key (hI : INV S N C A rd) (hrd : rd + 60000 < 2 ^ 30) (x1 x2 x3 x4 : Int32) : RLIKE [(1, 1), (3, 2)] A rd N (m_cJT_key N 0 C x1 x2 x3 x4) (m_rkey S x1 x2 x3 x4) := by
  obtain ⟨hR, G, hA, bi, bf, bs, bo, ji, jf, js, a, hio⟩ := hI
  obtain ⟨u0, u1, u2, u3, u4, u5, u6, u7, u8, u9, u10, u11, u12, u13, u14, u15, u16, u17, u18⟩ := G.nn
  obtain ⟨s1, s2, s3, s4, s5, s6, s7, s8, s9, s10, s11, s12, s13, s14, s15, s16, s17, s18, s19, s20, s21⟩ := G.st
  have hnn := hA.1.1
  have hknn := hA.1.2.2.1
  have hm1 : (-1 : Int32) = -nI 1 := by decide
  unfold m_cJT_key m_cJT_key_J0 m_rkey m_rkey_J0
  rcases rep_or x1 with hx1 | ⟨r, hr, rfl⟩
  · refine rlikeT (t := 1) (k := 1) (C' := C) (S1 := S) (v := nI 0) ?_ ?_ rfl hR G hA hio (Nat.le_refl _) (by omega)
    · simp (disch := omega) only [gd_ok, cl_nI, nI_s, nI_add, nI_leI, nI_ltI, nI_eq, if_pos, if_neg, q0, q1, q2, q3, q4, q5, q6, q7, q8, q9, q10, CS.i_setI, CS.l_setI, CS.r_setI, CS.a_setI, CS.q_setI, CS.z_setI, CS.i_setL, CS.l_setL, CS.r_setL, CS.a_setL, CS.q_setL, CS.z_setL, CS.i_setR, CS.l_setR, CS.r_setR, CS.a_setR, CS.q_setR, CS.z_setR, CS.i_setA, CS.l_setA, CS.r_setA, CS.a_setA, CS.q_setA, CS.z_setA, CS.i_setQ, CS.l_setQ, CS.r_setQ, CS.a_setQ, CS.q_setQ, CS.z_setQ, CS.i_setF, CS.l_setF, CS.r_setF, CS.a_setF, CS.q_setF, CS.z_setF, CS.i_new, CS.l_new, CS.r_new, CS.a_new, CS.q_new, CS.z_new, Nat.reduceEqDiff, false_and, true_and, and_false, and_true, if_true, if_false, b2_0, b2_1, b2_nn, n0_or, n1_or, n10, n01, dec1, dec2, ob_ok, oe_l, oe_r, gl_ok, gle_ok, gn_s, gv_ok, gv_none, on_none, onSome,u11, cJ_shownN hx1]
    · simp (disch := omega) only [gd_ok, cl_nI, nI_s, nI_add, nI_leI, nI_ltI, nI_eq, if_pos, if_neg, q0, q1, q2, q3, q4, q5, q6, q7, q8, q9, q10, MS.i_setI, MS.a_setI, MS.n_setI, MS.i_setA, MS.a_setA, MS.n_setA, MS.i_setN, MS.a_setN, MS.n_setN, ↓reduceIte, Nat.reduceEqDiff, b2_0, b2_1, b2_nn, n0_or, n1_or, n10, n01, dec1, dec2, ob_ok, oe_l, oe_r,pS_isN hx1, pS_no]
  · obtain ⟨C2, hsh, G2, hv2, hfr2⟩ := cJ_shown G hA hr
    have hio2 := hio.fr frS.refl hfr2
    have hvw : C2.r 11 2 0 = some 0 := G2.st.2.2.1
    rcases cJ_mapAt G2 hA hv2 x2 with ⟨x, hx, rfl, hkd, hmp⟩ | ⟨x, hx, rfl, hkd, hmp⟩ | ⟨hno, hmp⟩
    · have hkn := kind_x hR hA hr hx
      have hxl := oV_ltn hx
      have hox := ox_lt hxl
      have hln := L_len hA (x := x)
      obtain ⟨C3, hV3, hsp⟩ := cV_spotAt G2 hA hv2 hxl (by omega) x3
      obtain ⟨rd3, r31, r32, G3⟩ := hV3.toRC G2
      have hio3 := hio2.fr frS.refl hV3.fr
      obtain ⟨f, g, hko, hrow, _⟩ := pS_keysOf hR hA hr hx hkd
      obtain ⟨S3, hS3⟩ : ∃ S3, S3 = ((S.setA 45 f).setA 70 g).setI 71 (nI (A.fl r x).length) := ⟨_, rfl⟩
      rw [← hS3] at hko
      have h71 : S3.i 71 = nI (A.fl r x).length := by rw [hS3, MS.i_setI, if_pos rfl]
      have h70 : S3.a 70 = g := by rw [hS3, MS.a_setI, MS.a_setA, if_pos rfl]
      have hR3 : RS S3 A := by rw [hS3]; exact ((hR.setA rfl).setA rfl).setI rfl
      have hfr3 : frS S S3 := by
        rw [hS3]
        exact ((frS_setA (by decide)).trans (frS_setA (by decide))).trans (frS_setI (by decide))
      have hio4 := hio3.fr hfr3 frC.refl
      have hfl : (A.fl r x).length ≤ A.n := Nat.le_trans (List.length_filter_le _ _) hln
      rcases hsp with ⟨k, s, rfl, hk31, hfs, hsp⟩ | ⟨hnos, hsp⟩
      · have hkl : k < (A.fl r x).length := by
          rcases Nat.lt_or_ge k (A.fl r x).length with h | h
          · exact h
          · rw [List.getElem?_eq_none h] at hfs; cases hfs
        have hsfl : s ∈ A.fl r x := List.mem_of_getElem? hfs
        unfold AS.fl at hsfl
        rw [List.mem_filter] at hsfl
        have hsL := L_mem hA hsfl.1
        have hsn := hsL.1
        have hsj := G3.ln.1 s hsL.1 hsL.2.2
        have hop := G3.op s hsL.1
        have htp := (cd_mem hA).mp (top_cd hsfl.2)
        have htn := htp.1
        have hkey : A.key (A.top r s) = A.key s := by
          have := key_sp hA htp.1
          rw [htp.2.1] at this
          exact this.symm
        have h70k : S3.a 70 k = nI (A.top r s) := by
          rw [h70, hrow k (by rw [List.length_map]; exact hkl), List.getElem_map]
          rw [List.getElem?_eq_getElem hkl] at hfs
          rw [Option.some.inj hfs]
        have htx := hR3.2.2.1 _ htn
        rw [hkey] at htx
        have h15 := htx.2.1
        have hkle := key_le hR hA hsn
        have hst : C3.r 11 0 0 = some 0 := G3.st.1
        have hkp : C3.r 8 2 0 = some 0 := G3.st.2.2.2.2.2.2.2.2.2.1
        have hkb := G3.kp.2 s hsn
        have hkb1 := hkb.1
        by_cases c1 : x4 = -nI 1
        · subst c1
          refine rlikeV (C' := C3) (S1 := S3) (v := nI (A.key s).length) ?_ ?_ hR3 G3 hA hio4 r31 (by omega)
          · simp (disch := omega) only [gd_ok, cl_nI, nI_s, nI_add, nI_leI, nI_ltI, nI_eq, if_pos, if_neg, q0, q1, q2, q3, q4, q5, q6, q7, q8, q9, q10, CS.i_setI, CS.l_setI, CS.r_setI, CS.a_setI, CS.q_setI, CS.z_setI, CS.i_setL, CS.l_setL, CS.r_setL, CS.a_setL, CS.q_setL, CS.z_setL, CS.i_setR, CS.l_setR, CS.r_setR, CS.a_setR, CS.q_setR, CS.z_setR, CS.i_setA, CS.l_setA, CS.r_setA, CS.a_setA, CS.q_setA, CS.z_setA, CS.i_setQ, CS.l_setQ, CS.r_setQ, CS.a_setQ, CS.q_setQ, CS.z_setQ, CS.i_setF, CS.l_setF, CS.r_setF, CS.a_setF, CS.q_setF, CS.z_setF, CS.i_new, CS.l_new, CS.r_new, CS.a_new, CS.q_new, CS.z_new, Nat.reduceEqDiff, false_and, true_and, and_false, and_true, if_true, if_false, b2_0, b2_1, b2_nn, n0_or, n1_or, n10, n01, dec1, dec2, ob_ok, oe_l, oe_r, gl_ok, gle_ok, gn_s, gv_ok, gv_none, on_none, onSome,u11, u3, u10, u7, s3, hsh, hmp, hvw, hsp, cJ_needSpot, reduceCtorEq, hsj.1, hsj.2.1, hop.2.2.2.2.2.2.2.2.1, hm1]
          · unfold m_rkey_J145
            simp (disch := omega) only [gd_ok, cl_nI, nI_s, nI_add, nI_leI, nI_ltI, nI_eq, if_pos, if_neg, q0, q1, q2, q3, q4, q5, q6, q7, q8, q9, q10, MS.i_setI, MS.a_setI, MS.n_setI, MS.i_setA, MS.a_setA, MS.n_setA, MS.i_setN, MS.a_setN, MS.n_setN, ↓reduceIte, Nat.reduceEqDiff, b2_0, b2_1, b2_nn, n0_or, n1_or, n10, n01, dec1, dec2, ob_ok, oe_l, oe_r,pS_isR hr, hkn, hkd, hko, h71, h70k, h15, hm1, m1le, m1lt1, m1ltn]
        · by_cases c2 : x4 < nI 0
          · refine rlikeT (t := 3) (k := 2) (C' := C3) (S1 := S3) (v := nI 0) ?_ ?_ rfl hR3 G3 hA hio4 r31 (by omega)
            · unfold m_cJT_key_J61
              simp (disch := omega) only [gd_ok, cl_nI, nI_s, nI_add, nI_leI, nI_ltI, nI_eq, if_pos, if_neg, q0, q1, q2, q3, q4, q5, q6, q7, q8, q9, q10, CS.i_setI, CS.l_setI, CS.r_setI, CS.a_setI, CS.q_setI, CS.z_setI, CS.i_setL, CS.l_setL, CS.r_setL, CS.a_setL, CS.q_setL, CS.z_setL, CS.i_setR, CS.l_setR, CS.r_setR, CS.a_setR, CS.q_setR, CS.z_setR, CS.i_setA, CS.l_setA, CS.r_setA, CS.a_setA, CS.q_setA, CS.z_setA, CS.i_setQ, CS.l_setQ, CS.r_setQ, CS.a_setQ, CS.q_setQ, CS.z_setQ, CS.i_setF, CS.l_setF, CS.r_setF, CS.a_setF, CS.q_setF, CS.z_setF, CS.i_new, CS.l_new, CS.r_new, CS.a_new, CS.q_new, CS.z_new, Nat.reduceEqDiff, false_and, true_and, and_false, and_true, if_true, if_false, b2_0, b2_1, b2_nn, n0_or, n1_or, n10, n01, dec1, dec2, ob_ok, oe_l, oe_r, gl_ok, gle_ok, gn_s, gv_ok, gv_none, on_none, onSome,u11, u3, u10, u7, s3, hsh, hmp, hvw, hsp, cJ_needSpot, reduceCtorEq, hsj.1, hsj.2.1, hm1]
            · have c3 : x4 < -nI 1 := by
                have h1 := Int32.lt_iff_toInt_lt.mp c2
                rw [nI_toInt (by omega)] at h1
                refine Int32.lt_iff_toInt_lt.mpr ?_
                have h2 : x4.toInt ≠ (-nI 1).toInt := fun h => c1 (Int32.toInt_inj.mp h)
                rw [show (-nI 1).toInt = -1 from by decide] at h2 ⊢
                omega
              unfold m_rkey_J92
              simp (disch := omega) only [gd_ok, cl_nI, nI_s, nI_add, nI_leI, nI_ltI, nI_eq, if_pos, if_neg, q0, q1, q2, q3, q4, q5, q6, q7, q8, q9, q10, MS.i_setI, MS.a_setI, MS.n_setI, MS.i_setA, MS.a_setA, MS.n_setA, MS.i_setN, MS.a_setN, MS.n_setN, ↓reduceIte, Nat.reduceEqDiff, b2_0, b2_1, b2_nn, n0_or, n1_or, n10, n01, dec1, dec2, ob_ok, oe_l, oe_r,pS_isR hr, hkn, hkd, hko, h71, hm1, pS_no]
          · obtain ⟨p, hp31, rfl⟩ := nI_of c2
            have c3 : ¬ nI p < -nI 1 := by
              intro h
              have h1 := Int32.lt_iff_toInt_lt.mp h
              rw [nI_toInt (by omega), show (-nI 1).toInt = -1 from by decide] at h1
              omega
            by_cases c4 : p < (A.key s).length
            · have hne : A.key s ≠ [] := fun h => by rw [h] at c4; simp at c4
              have hby := hkb.2.1 p c4
              have hat := cR_at (i := A.ba s + p) u5 u13 (G3.kept hA) (by omega)
              rw [hby.2, sb_and hby.1] at hat
              have hbt := (G3.kp.2 _ htn).1
              rw [hkey] at hbt
              have hby2 := htx.2.2.2.2.2.2.1 p c4
              refine rlikeV (C' := C3) (S1 := S3) (v := nI (A.key s)[p]) ?_ ?_ hR3 G3 hA hio4 r31 (by omega)
              · simp (disch := omega) only [gd_ok, cl_nI, nI_s, nI_add, nI_leI, nI_ltI, nI_eq, if_pos, if_neg, q0, q1, q2, q3, q4, q5, q6, q7, q8, q9, q10, CS.i_setI, CS.l_setI, CS.r_setI, CS.a_setI, CS.q_setI, CS.z_setI, CS.i_setL, CS.l_setL, CS.r_setL, CS.a_setL, CS.q_setL, CS.z_setL, CS.i_setR, CS.l_setR, CS.r_setR, CS.a_setR, CS.q_setR, CS.z_setR, CS.i_setA, CS.l_setA, CS.r_setA, CS.a_setA, CS.q_setA, CS.z_setA, CS.i_setQ, CS.l_setQ, CS.r_setQ, CS.a_setQ, CS.q_setQ, CS.z_setQ, CS.i_setF, CS.l_setF, CS.r_setF, CS.a_setF, CS.q_setF, CS.z_setF, CS.i_new, CS.l_new, CS.r_new, CS.a_new, CS.q_new, CS.z_new, Nat.reduceEqDiff, false_and, true_and, and_false, and_true, if_true, if_false, b2_0, b2_1, b2_nn, n0_or, n1_or, n10, n01, dec1, dec2, ob_ok, oe_l, oe_r, gl_ok, gle_ok, gn_s, gv_ok, gv_none, on_none, onSome,u11, u3, u10, u7, u8, u5, s3, hst, hkp, hsh, hmp, hvw, hsp, cJ_needSpot, reduceCtorEq, hsj.1, hsj.2.1, hop.2.2.2.2.2.2.2.2.1, hop.2.2.2.2.2.2.2.1, hm1, hat]
              · unfold m_rkey_J145
                simp (disch := omega) only [gd_ok, cl_nI, nI_s, nI_add, nI_leI, nI_ltI, nI_eq, if_pos, if_neg, q0, q1, q2, q3, q4, q5, q6, q7, q8, q9, q10, MS.i_setI, MS.a_setI, MS.n_setI, MS.i_setA, MS.a_setA, MS.n_setA, MS.i_setN, MS.a_setN, MS.n_setN, ↓reduceIte, Nat.reduceEqDiff, b2_0, b2_1, b2_nn, n0_or, n1_or, n10, n01, dec1, dec2, ob_ok, oe_l, oe_r,pS_isR hr, hkn, hkd, hko, h71, h70k, h15, hm1, htx.1 hne, hby2.2, q255, sb_and hby2.1]
            · refine rlikeT (t := 3) (k := 2) (C' := C3) (S1 := S3) (v := nI 0) ?_ ?_ rfl hR3 G3 hA hio4 r31 (by omega)
              · unfold m_cJT_key_J61
                simp (disch := omega) only [gd_ok, cl_nI, nI_s, nI_add, nI_leI, nI_ltI, nI_eq, if_pos, if_neg, q0, q1, q2, q3, q4, q5, q6, q7, q8, q9, q10, CS.i_setI, CS.l_setI, CS.r_setI, CS.a_setI, CS.q_setI, CS.z_setI, CS.i_setL, CS.l_setL, CS.r_setL, CS.a_setL, CS.q_setL, CS.z_setL, CS.i_setR, CS.l_setR, CS.r_setR, CS.a_setR, CS.q_setR, CS.z_setR, CS.i_setA, CS.l_setA, CS.r_setA, CS.a_setA, CS.q_setA, CS.z_setA, CS.i_setQ, CS.l_setQ, CS.r_setQ, CS.a_setQ, CS.q_setQ, CS.z_setQ, CS.i_setF, CS.l_setF, CS.r_setF, CS.a_setF, CS.q_setF, CS.z_setF, CS.i_new, CS.l_new, CS.r_new, CS.a_new, CS.q_new, CS.z_new, Nat.reduceEqDiff, false_and, true_and, and_false, and_true, if_true, if_false, b2_0, b2_1, b2_nn, n0_or, n1_or, n10, n01, dec1, dec2, ob_ok, oe_l, oe_r, gl_ok, gle_ok, gn_s, gv_ok, gv_none, on_none, onSome,u11, u3, u10, u7, s3, hsh, hmp, hvw, hsp, cJ_needSpot, reduceCtorEq, hsj.1, hsj.2.1, hop.2.2.2.2.2.2.2.2.1, hm1]
              · unfold m_rkey_J92
                simp (disch := omega) only [gd_ok, cl_nI, nI_s, nI_add, nI_leI, nI_ltI, nI_eq, if_pos, if_neg, q0, q1, q2, q3, q4, q5, q6, q7, q8, q9, q10, MS.i_setI, MS.a_setI, MS.n_setI, MS.i_setA, MS.a_setA, MS.n_setA, MS.i_setN, MS.a_setN, MS.n_setN, ↓reduceIte, Nat.reduceEqDiff, b2_0, b2_1, b2_nn, n0_or, n1_or, n10, n01, dec1, dec2, ob_ok, oe_l, oe_r,pS_isR hr, hkn, hkd, hko, h71, h70k, h15, hm1, pS_no]
      · refine rlikeT (t := 3) (k := 2) (C' := C3) (S1 := S3) (v := nI 0) ?_ ?_ rfl hR3 G3 hA hio4 r31 (by omega)
        · simp (disch := omega) only [gd_ok, cl_nI, nI_s, nI_add, nI_leI, nI_ltI, nI_eq, if_pos, if_neg, q0, q1, q2, q3, q4, q5, q6, q7, q8, q9, q10, CS.i_setI, CS.l_setI, CS.r_setI, CS.a_setI, CS.q_setI, CS.z_setI, CS.i_setL, CS.l_setL, CS.r_setL, CS.a_setL, CS.q_setL, CS.z_setL, CS.i_setR, CS.l_setR, CS.r_setR, CS.a_setR, CS.q_setR, CS.z_setR, CS.i_setA, CS.l_setA, CS.r_setA, CS.a_setA, CS.q_setA, CS.z_setA, CS.i_setQ, CS.l_setQ, CS.r_setQ, CS.a_setQ, CS.q_setQ, CS.z_setQ, CS.i_setF, CS.l_setF, CS.r_setF, CS.a_setF, CS.q_setF, CS.z_setF, CS.i_new, CS.l_new, CS.r_new, CS.a_new, CS.q_new, CS.z_new, Nat.reduceEqDiff, false_and, true_and, and_false, and_true, if_true, if_false, b2_0, b2_1, b2_nn, n0_or, n1_or, n10, n01, dec1, dec2, ob_ok, oe_l, oe_r, gl_ok, gle_ok, gn_s, gv_ok, gv_none, on_none, onSome,u11, u3, u10, s3, hsh, hmp, hvw, hsp, cJ_needSpot]
        · unfold m_rkey_J92
          simp only [pS_isR hr, ob_ok, hkn, hkd, hko, h71]
          rw [if_neg (show ¬ nI 1 = 0 by decide), if_neg (show ¬ nI 6 = 7 by decide), if_neg (show ¬ nI 6 = 8 by decide), if_pos (show 0 ≤ nI 6 by decide)]
          by_cases c : x3 < nI 0
          · rw [if_pos (show x3 < 0 from c)]
            simp only [q2, pS_no, ob_ok]
          · rw [if_neg (show ¬ x3 < 0 from c)]
            obtain ⟨p, hp31, rfl⟩ := nI_of c
            have h7 : ¬ p < (A.fl r x).length := fun h => hnos p h rfl
            rw [if_pos ((nI_leI (by omega) (by omega)).mpr (by omega))]
            simp only [q2, pS_no, ob_ok]
    · have hkn := kind_x hR hA hr hx
      have h8 := kd_le8 hx
      refine rlikeT (t := 1) (k := 1) (C' := C2) (S1 := S) (v := nI 0) ?_ ?_ rfl hR G2 hA hio2 (Nat.le_refl _) (by omega)
      · simp (disch := omega) only [gd_ok, cl_nI, nI_s, nI_add, nI_leI, nI_ltI, nI_eq, if_pos, if_neg, q0, q1, q2, q3, q4, q5, q6, q7, q8, q9, q10, CS.i_setI, CS.l_setI, CS.r_setI, CS.a_setI, CS.q_setI, CS.z_setI, CS.i_setL, CS.l_setL, CS.r_setL, CS.a_setL, CS.q_setL, CS.z_setL, CS.i_setR, CS.l_setR, CS.r_setR, CS.a_setR, CS.q_setR, CS.z_setR, CS.i_setA, CS.l_setA, CS.r_setA, CS.a_setA, CS.q_setA, CS.z_setA, CS.i_setQ, CS.l_setQ, CS.r_setQ, CS.a_setQ, CS.q_setQ, CS.z_setQ, CS.i_setF, CS.l_setF, CS.r_setF, CS.a_setF, CS.q_setF, CS.z_setF, CS.i_new, CS.l_new, CS.r_new, CS.a_new, CS.q_new, CS.z_new, Nat.reduceEqDiff, false_and, true_and, and_false, and_true, if_true, if_false, b2_0, b2_1, b2_nn, n0_or, n1_or, n10, n01, dec1, dec2, ob_ok, oe_l, oe_r, gl_ok, gle_ok, gn_s, gv_ok, gv_none, on_none, onSome,u11, hsh, hmp]
      · unfold m_rkey_J35
        simp only [pS_isR hr, ob_ok, hkn]
        rw [if_neg (show ¬ nI 1 = 0 by decide)]
        by_cases c7 : A.kd x = 7
        · rw [c7, if_pos (show nI 7 = 7 by decide)]
          simp only [q1, pS_no, ob_ok]
        · have c8 : A.kd x = 8 := by omega
          rw [c8, if_neg (show ¬ nI 8 = 7 by decide), if_pos (show nI 8 = 8 by decide)]
          simp only [q1, pS_no, ob_ok]
    · refine rlikeT (t := 3) (k := 2) (C' := C2) (S1 := S) (v := nI 0) ?_ ?_ rfl hR G2 hA hio2 (Nat.le_refl _) (by omega)
      · simp (disch := omega) only [gd_ok, cl_nI, nI_s, nI_add, nI_leI, nI_ltI, nI_eq, if_pos, if_neg, q0, q1, q2, q3, q4, q5, q6, q7, q8, q9, q10, CS.i_setI, CS.l_setI, CS.r_setI, CS.a_setI, CS.q_setI, CS.z_setI, CS.i_setL, CS.l_setL, CS.r_setL, CS.a_setL, CS.q_setL, CS.z_setL, CS.i_setR, CS.l_setR, CS.r_setR, CS.a_setR, CS.q_setR, CS.z_setR, CS.i_setA, CS.l_setA, CS.r_setA, CS.a_setA, CS.q_setA, CS.z_setA, CS.i_setQ, CS.l_setQ, CS.r_setQ, CS.a_setQ, CS.q_setQ, CS.z_setQ, CS.i_setF, CS.l_setF, CS.r_setF, CS.a_setF, CS.q_setF, CS.z_setF, CS.i_new, CS.l_new, CS.r_new, CS.a_new, CS.q_new, CS.z_new, Nat.reduceEqDiff, false_and, true_and, and_false, and_true, if_true, if_false, b2_0, b2_1, b2_nn, n0_or, n1_or, n10, n01, dec1, dec2, ob_ok, oe_l, oe_r, gl_ok, gle_ok, gn_s, gv_ok, gv_none, on_none, onSome,u11, hsh, hmp]
      · simp only [pS_isR hr, ob_ok, kind_n hR hA hr hno]
        rw [if_neg (show ¬ nI 1 = 0 by decide), if_neg (show ¬ -nI 1 = 7 by decide), if_neg (show ¬ -nI 1 = 8 by decide), if_neg (show ¬ 0 ≤ -nI 1 by decide)]
        simp only [q2, pS_no, ob_ok]
end CRF
