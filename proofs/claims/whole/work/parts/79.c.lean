/-! THE CALL drop. -/
section CDT
variable {S S' : MS} {N : Nat → Nat} {C C' : CS} {A : AS} {r rd : Nat} {bi bf bs bo : List Nat} {ji jf js a : Nat}
theorem rdrop_loop (hR : RS S A) (hA : AI A) (hr : r < 8) {v : Int32} : ∃ g, m_rdrop_L26 S (nI r) v (nI 0) = some (S.setA 21 g, v) ∧ ∀ o, o < A.n → g o = nI ((A.dr r).gone o) := by
  have hn := hA.1.1
  have hm := hA.1.2.1
  have := lp_run (body := fun w : MS × Int32 × Int32 × Int32 => m_rdrop_B26 w.1 w.2.1 w.2.2.1 w.2.2.2) (fun i w => ∃ g, w = (S.setA 21 g, nI r, v, nI i) ∧ ∀ o, o < A.n → g o = if o < i then nI ((A.dr r).gone o) else S.a 21 o) (fun e => ∃ g, e = (S.setA 21 g, v) ∧ ∀ o, o < A.n → g o = nI ((A.dr r).gone o)) A.n ?_ FU (S, nI r, v, nI 0) (by unfold FU; omega) ⟨S.a 21, by rw [MS.setA_self], fun o ho => by rw [if_neg (by omega)]⟩
  · obtain ⟨e, h1, g, rfl, h2⟩ := this
    refine ⟨g, ?_, h2⟩
    unfold m_rdrop_L26
    exact h1
  · rintro i _ hi ⟨g, rfl, hg⟩
    have e23 : (S.setA 21 g).i 23 = nI A.n := by rw [MS.i_setA]; exact hR.1.1
    by_cases hin : i < A.n
    · left
      have hop := hR.2.1 i hin
      have hk := hA.2.2.1.1 i hin
      have hcl : ∀ c, A.chg i = some c → c < 1000 := fun c hc => by have := chg_lt hA hin hc; omega
      have e13 : (S.setA 21 g).a 13 i = cI (A.chg i) := by rw [MS.a_setA, if_neg (by decide)]; exact hop.2.2.2.2.2.1
      have e12 : (S.setA 21 g).a 12 i = nI (A.own i) := by rw [MS.a_setA, if_neg (by decide)]; exact hop.2.2.2.2.1
      have hgi : g i = nI (A.gone i) := by rw [hg i hin, if_neg (by omega)]; exact hop.2.2.2.2.2.2.2.1
      have hkeep : (A.dr r).gone i = A.gone i → ∀ o, o < A.n → g o = if o < i + 1 then nI ((A.dr r).gone o) else S.a 21 o := by
        intro he o ho
        by_cases e : o = i
        · rw [if_pos (by omega), e, hgi, he]
        · rw [hg o ho]
          by_cases e2 : o < i
          · rw [if_pos e2, if_pos (by omega)]
          · rw [if_neg e2, if_neg (by omega)]
      by_cases c1 : A.chg i = none
      · by_cases c2 : A.own i = r
        · refine ⟨(S.setA 21 (upd g i 1), nI r, v, nI (i + 1)), ?_, hin, _, rfl, ?_⟩
          · show m_rdrop_B26 (S.setA 21 g) (nI r) v (nI i) = _
            unfold m_rdrop_B26 m_rdrop_J60
            rw [e23, if_neg (nle hin (by omega)), gd_ok (by omega) (by omega), cl_nI (by omega), e13, if_neg (by rw [cI_neg hcl]; simp [c1]), gd_ok (by omega) (by omega), e12, if_pos (by rw [c2]), gd_ok (by omega) (by omega), MS.a_setA, if_pos rfl, MS.setA_setA]
            rw [show nI i + 1 = nI (i + 1) from nI_add _ _]
            rfl
          · intro o ho
            unfold upd
            by_cases e : o = i
            · subst e
              rw [if_pos rfl, if_pos (by omega), dr_gone]
              cases h : A.opn r o with
              | true => rfl
              | false =>
                rw [if_neg (by decide)]
                have : A.gone o ≠ 0 := by
                  intro h0
                  rw [opn_iff.mpr ⟨ho, h0, c1, c2⟩] at h
                  cases h
                rw [show A.gone o = 1 by omega]
                rfl
            · rw [if_neg e, hg o ho]
              by_cases e2 : o < i
              · rw [if_pos e2, if_pos (by omega)]
              · rw [if_neg e2, if_neg (by omega)]
        · refine ⟨(S.setA 21 g, nI r, v, nI (i + 1)), ?_, hin, _, rfl, ?_⟩
          · show m_rdrop_B26 (S.setA 21 g) (nI r) v (nI i) = _
            unfold m_rdrop_B26 m_rdrop_J60
            rw [e23, if_neg (nle hin (by omega)), gd_ok (by omega) (by omega), cl_nI (by omega), e13, if_neg (by rw [cI_neg hcl]; simp [c1]), gd_ok (by omega) (by omega), e12, if_neg (fun h => c2 ((nI_eq (by omega) (by omega)).mp h))]
            rw [show nI i + 1 = nI (i + 1) from nI_add _ _]
          · refine hkeep ?_
            rw [dr_gone, if_neg]
            intro h
            exact c2 (opn_iff.mp h).2.2.2
      · refine ⟨(S.setA 21 g, nI r, v, nI (i + 1)), ?_, hin, _, rfl, ?_⟩
        · show m_rdrop_B26 (S.setA 21 g) (nI r) v (nI i) = _
          unfold m_rdrop_B26 m_rdrop_J60
          rw [e23, if_neg (nle hin (by omega)), gd_ok (by omega) (by omega), cl_nI (by omega), e13, if_pos (by rw [cI_neg hcl]; exact c1)]
          rw [show nI i + 1 = nI (i + 1) from nI_add _ _]
        · refine hkeep ?_
          rw [dr_gone, if_neg]
          intro h
          exact c1 (opn_iff.mp h).2.2.1
    · right
      refine ⟨(S.setA 21 g, v), ?_, _, rfl, ?_⟩
      · show m_rdrop_B26 (S.setA 21 g) (nI r) v (nI i) = _
        unfold m_rdrop_B26
        rw [e23, show i = A.n by omega, if_pos (Int32.le_refl _)]
      · intro o ho
        rw [hg o ho, if_pos (by omega)]
theorem RS_dr (hR : RS S A) {g : Nat → Int32} (hg : ∀ o, o < A.n → g o = nI ((A.dr r).gone o)) : RS (S.setA 21 g) (A.dr r) := by
  have ho : ∀ k, k ≠ 21 → (S.setA 21 g).a k = S.a k := fun k hk => by rw [MS.a_setA, if_neg hk]
  obtain ⟨h1, h2, h3, h4, h5, h6, h7, h8⟩ := hR
  refine ⟨h1, ?_, h3, h4, h5, h6, h7, ?_⟩
  · intro o hon
    have h := h2 o hon
    rw [ho 8 (by omega), ho 9 (by omega), ho 10 (by omega), ho 11 (by omega), ho 12 (by omega), ho 13 (by omega), ho 20 (by omega), MS.a_setA, if_pos rfl]
    exact ⟨h.1, h.2.1, h.2.2.1, h.2.2.2.1, h.2.2.2.2.1, h.2.2.2.2.2.1, h.2.2.2.2.2.2.1, hg o hon, h.2.2.2.2.2.2.2.2⟩
  · intro q hq
    have h := h8 q hq
    rw [ho 39 (by omega), ho (101 + q) (by omega), ho (109 + q) (by omega), ho (117 + q) (by omega)]
    exact h
theorem call_drop (hI : INV S N C A rd) (x1 : Int32) : SLIKE [(1, 1)] A rd N (m_cJT_drop N 0 C x1) (m_rdrop S x1) := by
  obtain ⟨hR, G, hA, bi, bf, bs, bo, ji, jf, js, a, hio⟩ := hI
  obtain ⟨u0, u1, u2, u3, u4, u5, u6, u7, u8, u9, u10, u11, u12, u13, u14, u15, u16, u17, u18⟩ := G.nn
  obtain ⟨s1, s2, s3, s4, s5, s6, s7, s8, s9, s10, s11, s12, s13, s14, s15, s16, s17, s18, s19, s20, s21⟩ := G.st
  rcases rep_or x1 with hx1 | ⟨r, hr, rfl⟩
  · refine slikeT (t := 1) (k := 1) (C' := C) (S1 := S) (v := nI 0) ?_ ?_ rfl hR G hA hio (Nat.le_refl _) (by omega)
    · unfold m_cJT_drop m_cJT_drop_J0
      simp (disch := omega) only [gd_ok, cl_nI, nI_s, nI_add, nI_leI, nI_ltI, nI_eq, if_pos, if_neg, q0, q1, q2, q3, q4, q5, q6, q7, q8, q9, q10, CS.i_setI, CS.l_setI, CS.r_setI, CS.a_setI, CS.q_setI, CS.z_setI, CS.i_setL, CS.l_setL, CS.r_setL, CS.a_setL, CS.q_setL, CS.z_setL, CS.i_setR, CS.l_setR, CS.r_setR, CS.a_setR, CS.q_setR, CS.z_setR, CS.i_setA, CS.l_setA, CS.r_setA, CS.a_setA, CS.q_setA, CS.z_setA, CS.i_setQ, CS.l_setQ, CS.r_setQ, CS.a_setQ, CS.q_setQ, CS.z_setQ, CS.i_setF, CS.l_setF, CS.r_setF, CS.a_setF, CS.q_setF, CS.z_setF, CS.i_new, CS.l_new, CS.r_new, CS.a_new, CS.q_new, CS.z_new, Nat.reduceEqDiff, false_and, true_and, and_false, and_true, if_true, if_false, b2_0, b2_1, b2_nn, n0_or, n1_or, n10, n01, dec1, dec2, ob_ok, oe_l, oe_r, gl_ok, gle_ok, gn_s, gv_ok, gv_none, on_none, onSome,u11, cJ_shownN hx1]
    · unfold m_rdrop m_rdrop_J0
      rw [pr_isN hx1]
      rfl
  · obtain ⟨C2, hsh, G2, hv2, hfr2⟩ := cJ_shown G hA hr
    have hio2 := hio.fr frS.refl hfr2
    have hrp := G2.rp r hr
    have hT := hA.2.2.2.1.1 r
    have hnp := dr_nop hA hr (q := r)
    rw [if_pos rfl] at hnp
    have hR0 : RS (S.setI 0 (nI 0)) A := hR.setI rfl
    obtain ⟨g, hg1, hg2⟩ := rdrop_loop (v := nI (A.on r)) hR0 hA hr
    have hlp := drop_loop G2 hA hr
    have hRC := RC_dr G2 hA hr
    refine Or.inl ⟨_, nI (A.on r), (S.setI 0 (nI 0)).setA 21 g, A.dr r, rd, ?_, ?_, ?_, ⟨RS_dr hR0 hg2, hRC, dr_AI hA, bi, bf, bs, bo, ji, jf, js, a, hio2.fr ?_ ?_⟩, rfl, rfl, Nat.le_refl _, by omega⟩
    · unfold m_cJT_drop m_cJT_drop_J0
      rw [gl_ok (by omega), hsh, oe_l, gn_s (by omega), hrp.2.2.2.2.2.2.2.2, hlp, ob_ok, gn_s (by omega)]
      obtain ⟨C3, hC3⟩ : ∃ C3, C3 = C2.drp (A.dF r (A.on r)) (A.dI r (A.on r)) := ⟨_, rfl⟩
      have e8 : C3.i 4 8 r = nI (A.tp r) := by rw [hC3, drp_i, if_neg (by omega)]; exact hrp.2.2.2.2.2.2.2.1
      have e7 : (C3.setI 4 8 r (nI (A.tp r - A.on r))).i 4 7 r = nI (A.nop r) := by rw [CS.i_setI, if_neg (by omega), hC3, drp_i, if_neg (by omega)]; exact hrp.2.2.2.2.2.2.1
      rw [← hC3]
      simp only []
      rw [e8, sub_nI (by omega)]
      have e7' : C3.i 4 7 r = nI (A.nop r) := by
        have := e7
        rw [CS.i_setI, if_neg (by omega)] at this
        exact this
      rw [e7', sub_nI (by omega), show A.nop r - A.on r = (A.dr r).nop r by omega]
      rfl
    · unfold m_rdrop m_rdrop_J0
      rw [pr_isR hr, ob_ok, if_neg (show ¬ (1 : Int32) = 0 by decide)]
      simp only []
      rw [show m_ropen (S.setI 0 0) (nI r) = _ from pS_open hR0 hA hr, ob_ok]
      simp only []
      rw [show m_rdrop_L26 (S.setI 0 0) (nI r) (nI (A.on r)) 0 = _ from hg1]
      rfl
    · rw [MS.i_setA, MS.i_setI, if_pos rfl]
    · exact (frS_setI (by decide)).trans (frS_setA (by decide))
    · exact ⟨fun _ _ => rfl, fun _ _ => rfl, fun _ _ => rfl, fun _ _ => rfl, fun _ _ _ => rfl, fun _ _ => rfl, fun _ _ _ => rfl, fun _ => rfl, fun _ _ => rfl, fun _ _ => rfl, fun _ _ => rfl, fun _ _ => rfl⟩
end CDT
