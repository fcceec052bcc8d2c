/-! THE CALL erase. -/
section CER
variable {S S' : MS} {N : Nat → Nat} {C C' : CS} {A : AS} {r rd : Nat} {bi bf bs bo : List Nat} {ji jf js a : Nat}
theorem pS_pointN {x1 : Int32} (hx1 : x1 < nI 0 ∨ nI 8 ≤ x1) {x2 x3 x4 x5 : Int32} : m_rpoint S x1 x2 x3 x4 x5 = some (S, nI 1) := by
  unfold m_rpoint m_rpoint_J0
  rw [pS_isN hx1]
  simp only [ob_ok]
  rw [if_pos (show nI 0 = 0 by decide)]
  rfl
/-- the reference's end of erase and add, once the place is known -/
theorem pS_actBad {x1 x2 x3 x4 : Int32} {x5 : Int64} {S1 S3 : MS} {g k : Nat} (hk : 1 ≤ k ∧ k ≤ 3) (htk : m_rtaken S = some (S1, nI g)) (hp : m_rpoint S1 x1 x2 x3 (nI g) (nI 3) = some (S3, nI k)) : m_ract S x1 x2 x3 x4 x5 = some (S3.setI 0 (nI k), nI 0) := by
  unfold m_ract m_ract_J0
  rw [htk]
  simp only [ob_ok]
  rw [show m_rpoint S1 x1 x2 x3 (nI g) 3 = _ from hp]
  simp only [ob_ok]
  rw [if_neg (show ¬ nI k = 0 from fun h => by
    have := (nI_eq (by omega) (by omega)).mp (h.trans q0)
    omega), pS_no]
  rfl
set_option maxHeartbeats 4000000 in
theorem call_erase (hI : INV S N C A rd) (hrd : rd + 60000 < 2 ^ 30) (x1 x2 x3 : Int32) : ALIKE [(1, 1), (2, 2), (3, 3), (4, 4)] A rd N (m_cJT_erase N 0 C x1 x2 x3) (m_rerase S x1 x2 x3) := by
  obtain ⟨hR, G, hA, bi, bf, bs, bo, ji, jf, js, a, hio⟩ := hI
  obtain ⟨u0, u1, u2, u3, u4, u5, u6, u7, u8, u9, u10, u11, u12, u13, u14, u15, u16, u17, u18⟩ := G.nn
  obtain ⟨s1, s2, s3, s4, s5, s6, s7, s8, s9, s10, s11, s12, s13, s14, s15, s16, s17, s18, s19, s20, s21⟩ := G.st
  have hnn := hA.1.1
  have hio0 := hio
  obtain ⟨⟨a1, a2, a3, a4, a5, a6, a7⟩, _, ⟨c1, c2, c3, c4, c5⟩, ⟨d1, d2, d3, d4, d5⟩, _, ⟨f1, f2, f3⟩, _⟩ := hio0
  have htk := pS_taken f1
  have htc := cJ_take u11 f2
  have hR1 : RS (S.setI 7 (nI 0)) A := hR.setI rfl
  have G1 : RC N (C.setI 11 11 0 (nI 0)) A rd := RC_take G
  have hio1 := hio.take
  have e5 : (S.setI 7 (nI 0)).i 5 = nI bf.length := c3
  generalize S.setI 7 (nI 0) = S1 at htk hR1 hio1 e5
  generalize C.setI 11 11 0 (nI 0) = C1 at htc G1 hio1
  have hwrap : ∀ {y : Option (MS × Int32)} {w : MS × Int32}, y = some w → m_ract S x1 x2 x3 9 0 = y → m_rerase S x1 x2 x3 = some w := by
    intro y w h1 h2
    unfold m_rerase m_rerase_J0
    rw [h2, h1]
    rfl
  rcases rep_or x1 with hx1 | ⟨r, hr, rfl⟩
  · refine alikeT (t := 1) (k := 1) (C' := C1) (S1 := S1) (v := nI 0) ?_ (hwrap rfl (pS_actBad (by omega) htk (pS_pointN hx1))) rfl hR1 G1 hA hio1 (Nat.le_refl _) (by omega)
    unfold m_cJT_erase m_cJT_erase_J0
    simp (disch := omega) only [gd_ok, cl_nI, nI_s, nI_add, nI_leI, nI_ltI, nI_eq, if_pos, if_neg, q0, q1, q2, q3, q4, q5, q6, q7, q8, q9, q10, CS.i_setI, CS.l_setI, CS.r_setI, CS.a_setI, CS.q_setI, CS.z_setI, CS.i_setL, CS.l_setL, CS.r_setL, CS.a_setL, CS.q_setL, CS.z_setL, CS.i_setR, CS.l_setR, CS.r_setR, CS.a_setR, CS.q_setR, CS.z_setR, CS.i_setA, CS.l_setA, CS.r_setA, CS.a_setA, CS.q_setA, CS.z_setA, CS.i_setQ, CS.l_setQ, CS.r_setQ, CS.a_setQ, CS.q_setQ, CS.z_setQ, CS.i_setF, CS.l_setF, CS.r_setF, CS.a_setF, CS.q_setF, CS.z_setF, CS.i_new, CS.l_new, CS.r_new, CS.a_new, CS.q_new, CS.z_new, Nat.reduceEqDiff, false_and, true_and, and_false, and_true, if_true, if_false, b2_0, b2_1, b2_nn, n0_or, n1_or, n10, n01, dec1, dec2, ob_ok, oe_l, oe_r, gl_ok, gle_ok, gn_s, gv_ok, gv_none, on_none, onSome,u11, htc, cJ_shownN hx1]
  · obtain ⟨C2, hsh, G2, hv2, hfr2⟩ := cJ_shown G1 hA hr
    have hio2 := hio1.fr frS.refl hfr2
    rcases pS_point (S := S1) hr e5 c5 f3 x2 x3 (nI 3) with ⟨hok, hpt⟩ | ⟨hok, hpt⟩
    · rcases cJ_needPlace G2 hio2 f3 x3 with ⟨_, hnp⟩ | ⟨h, _⟩
      · have hplb : PLB S1 N C2 A r rd bf 3 x2 x3 := by
          by_cases h3 : x3 = -nI 1
          · rw [h3]
            exact place_key hR1 hA hr G2 hio2 hv2 hrd (hok.1 h3).2 3 x2
          · exact place_idx hR1 hA hr G2 hv2 hrd 3 x2 h3
        rcases hplb with ⟨C3, S3, t, k, hpa, hj, htkk, hR3, hfr3, hV3⟩ | ⟨C3, S3, x, s, hx, rfl, hsm, hpa, hj, hR3, hfr3, hV3, h47, h46, hcase⟩
        · obtain ⟨rd3, r31, r32, G3⟩ := hV3.toRC G2
          have hio3 := hio2.fr hfr3 hV3.fr
          have hC : m_cJT_erase N 0 C (nI r) x2 x3 = some (.inr (N, C3, t), 1, 6) := by
            unfold m_cJT_erase m_cJT_erase_J0
            simp (disch := omega) only [gd_ok, cl_nI, nI_s, nI_add, nI_leI, nI_ltI, nI_eq, if_pos, if_neg, q0, q1, q2, q3, q4, q5, q6, q7, q8, q9, q10, CS.i_setI, CS.l_setI, CS.r_setI, CS.a_setI, CS.q_setI, CS.z_setI, CS.i_setL, CS.l_setL, CS.r_setL, CS.a_setL, CS.q_setL, CS.z_setL, CS.i_setR, CS.l_setR, CS.r_setR, CS.a_setR, CS.q_setR, CS.z_setR, CS.i_setA, CS.l_setA, CS.r_setA, CS.a_setA, CS.q_setA, CS.z_setA, CS.i_setQ, CS.l_setQ, CS.r_setQ, CS.a_setQ, CS.q_setQ, CS.z_setQ, CS.i_setF, CS.l_setF, CS.r_setF, CS.a_setF, CS.q_setF, CS.z_setF, CS.i_new, CS.l_new, CS.r_new, CS.a_new, CS.q_new, CS.z_new, Nat.reduceEqDiff, false_and, true_and, and_false, and_true, if_true, if_false, b2_0, b2_1, b2_nn, n0_or, n1_or, n10, n01, dec1, dec2, ob_ok, oe_l, oe_r, gl_ok, gle_ok, gn_s, gv_ok, gv_none, on_none, onSome,u11, htc, hsh, hnp, hpa]
          rw [← hpt] at hj
          rcases htkk with ⟨rfl, rfl⟩ | ⟨rfl, rfl⟩
          · exact alikeT (t := 1) (k := 1) hC (hwrap rfl (pS_actBad (by omega) htk hj)) rfl hR3 G3 hA hio3 r31 (by omega)
          · exact alikeT (t := 3) (k := 3) hC (hwrap rfl (pS_actBad (by omega) htk hj)) rfl hR3 G3 hA hio3 r31 (by omega)
        · obtain ⟨rd3, r31, r32, G3⟩ := hV3.toRC G2
          have hv3 := hV3.toVC hv2
          have hio3 := hio2.fr hfr3 hV3.fr
          have hsfl := hsm
          unfold AS.fl at hsfl
          rw [List.mem_filter] at hsfl
          have hsL := L_mem hA hsfl.1
          have hsj := (G3.ln.1 s hsL.1 hsL.2.2).1
          have hcl := cd_len hA (r := r) (s := s)
          have hio5 := hio3
          obtain ⟨_, _, ⟨w1, w2, w3, w4, _⟩, _⟩ := hio5
          have e9 : C3.r 11 9 0 = some jf := hio3.1.2.1
          have hjf := w1.1
          have hna := cJ_needAll G3 hr
          have hllt := lk_lt hR3 hA hr
          have hne := flB_iff.mp hsfl.2
          -- how much of the row of kept bytes is wanted
          obtain ⟨yl, hyl⟩ : ∃ yl, yl = (A.key s).length := ⟨_, rfl⟩
          have hyl2 : (x3 = -nI 1 ∧ A.kd x = 6 ∧ A.key s = bf ∧ S3.i 52 = nI 0 ∧ yl = bf.length) ∨ (x3 ≠ -nI 1 ∧ nI 0 ≤ x3 ∧ A.kd x ≠ 6 ∧ S3.i 52 = nI (A.id s) ∧ yl = 0) := by
            rcases hcase with ⟨h1, h2, h3, h4⟩ | ⟨h1, h2, h3, h4⟩
            · exact Or.inl ⟨h1, h2, h3, h4, by rw [hyl, h3]⟩
            · refine Or.inr ⟨h1, h2, h3, h4, ?_⟩
              rw [hyl, (key_nil hA hsL.1).mpr (by rw [hsL.2.1]; exact h3)]
              rfl
          have hyl8 : yl ≤ 8192 := by omega
          have hL := pS_actL (A := A) h47 h46 hcl (fun c hc => by
            have hm := ((cd_mem hA).mp hc).1
            exact ⟨by omega, (hR3.2.1 c hm).2.2.2.1, (hA.2.2.1.1 c hm).2.2.2.2.1⟩) (nI r) (nI (A.oi x)) x3 9 0 true
          rw [Bool.true_or] at hL
          have hS0 : m_ract S (nI r) (nI (A.oi x)) x3 9 0 = (if A.lk r = none then m_ract_J130 S3 (nI r) (nI (A.oi x)) x3 9 0 (nI yl) (nI 1) else some (S3.setI 0 (nI 2), nI 0)) := by
            unfold m_ract m_ract_J0
            rw [htk]
            simp only [ob_ok]
            rw [show m_rpoint S1 (nI r) (nI (A.oi x)) x3 (nI a) 3 = some (S3, nI 0) from hpt.trans hj]
            simp only [ob_ok]
            rw [if_pos (show nI 0 = 0 by decide), if_pos trivial]
            unfold m_ract_J42
            rw [show m_ract_L47 S3 (nI r) (nI (A.oi x)) x3 9 0 1 0 = _ from hL]
            simp only [ob_ok]
            rw [if_neg (show ¬ b2 true = 0 by decide), gd_ok hr (by omega), cl_nI (by omega)]
            by_cases hl : A.lk r = none
            · rw [if_pos hl, if_pos (show S3.a 39 r < 0 from hllt.mpr hl)]
              rcases hyl2 with ⟨h1, _, _, _, h5⟩ | ⟨h1, h2, _, _, h5⟩
              · rw [h1, if_neg (show ¬ (0 : Int32) ≤ -nI 1 by decide), w3, h5]
                rfl
              · rw [if_pos (show (0 : Int32) ≤ x3 from h2), h5]
                rfl
            · rw [if_neg hl, if_neg (show ¬ S3.a 39 r < 0 from fun h => hl (hllt.mp h))]
              rfl
          by_cases hl : A.lk r = none
          · rw [if_pos hl] at hna hS0
            have hC0 : m_cJT_erase N 0 C (nI r) (nI (A.oi x)) x3 = m_cJT_erase_J52 N 0 C3 (some r) (some (A.sj s)) (nI yl) (nI 1) (some 0) := by
              unfold m_cJT_erase m_cJT_erase_J0
              rcases hyl2 with ⟨h1, _, _, _, h5⟩ | ⟨h1, h2, _, _, h5⟩
              · have h1' : x3 = -1 := h1.trans hm1.symm
                simp (disch := omega) only [gd_ok, cl_nI, nI_s, nI_add, nI_leI, nI_ltI, nI_eq, if_pos, if_neg, q0, q1, q2, q3, q4, q5, q6, q7, q8, q9, q10, CS.i_setI, CS.l_setI, CS.r_setI, CS.a_setI, CS.q_setI, CS.z_setI, CS.i_setL, CS.l_setL, CS.r_setL, CS.a_setL, CS.q_setL, CS.z_setL, CS.i_setR, CS.l_setR, CS.r_setR, CS.a_setR, CS.q_setR, CS.z_setR, CS.i_setA, CS.l_setA, CS.r_setA, CS.a_setA, CS.q_setA, CS.z_setA, CS.i_setQ, CS.l_setQ, CS.r_setQ, CS.a_setQ, CS.q_setQ, CS.z_setQ, CS.i_setF, CS.l_setF, CS.r_setF, CS.a_setF, CS.q_setF, CS.z_setF, CS.i_new, CS.l_new, CS.r_new, CS.a_new, CS.q_new, CS.z_new, Nat.reduceEqDiff, false_and, true_and, and_false, and_true, if_true, if_false, b2_0, b2_1, b2_nn, n0_or, n1_or, n10, n01, dec1, dec2, ob_ok, oe_l, oe_r, gl_ok, gle_ok, gn_s, gv_ok, gv_none, on_none, onSome,u11, u4, u5, htc, hsh, hnp, hpa, hna, if_pos h1', e9, w1.2.2.1, h5]
              · have h1' : ¬ x3 = -1 := fun h => h1 (h.trans hm1)
                simp (disch := omega) only [gd_ok, cl_nI, nI_s, nI_add, nI_leI, nI_ltI, nI_eq, if_pos, if_neg, q0, q1, q2, q3, q4, q5, q6, q7, q8, q9, q10, CS.i_setI, CS.l_setI, CS.r_setI, CS.a_setI, CS.q_setI, CS.z_setI, CS.i_setL, CS.l_setL, CS.r_setL, CS.a_setL, CS.q_setL, CS.z_setL, CS.i_setR, CS.l_setR, CS.r_setR, CS.a_setR, CS.q_setR, CS.z_setR, CS.i_setA, CS.l_setA, CS.r_setA, CS.a_setA, CS.q_setA, CS.z_setA, CS.i_setQ, CS.l_setQ, CS.r_setQ, CS.a_setQ, CS.q_setQ, CS.z_setQ, CS.i_setF, CS.l_setF, CS.r_setF, CS.a_setF, CS.q_setF, CS.z_setF, CS.i_new, CS.l_new, CS.r_new, CS.a_new, CS.q_new, CS.z_new, Nat.reduceEqDiff, false_and, true_and, and_false, and_true, if_true, if_false, b2_0, b2_1, b2_nn, n0_or, n1_or, n10, n01, dec1, dec2, ob_ok, oe_l, oe_r, gl_ok, gle_ok, gn_s, gv_ok, gv_none, on_none, onSome,u11, u4, u5, htc, hsh, hnp, hpa, hna, if_neg h1', h5]
            have hroom := cJ_needRoom G3 hA (x := 1) (y := yl) (by omega) (by omega)
            have hfull := pS_full hR3 hA (x := 1) (y := yl) (by omega) (by omega)
            rw [hC0]
            by_cases hrm : 4000 < A.n + 1 ∨ 24576 < A.kn + yl
            · rw [if_pos hrm] at hroom
              rw [decide_eq_true hrm] at hfull
              refine alikeT (t := 4) (k := 4) (C' := C3) (S1 := S3) (v := nI 0) ?_ (hwrap ?_ hS0) rfl hR3 G3 hA hio3 r31 (by omega)
              · unfold m_cJT_erase_J52
                simp (disch := omega) only [gd_ok, cl_nI, nI_s, nI_add, nI_leI, nI_ltI, nI_eq, if_pos, if_neg, q0, q1, q2, q3, q4, q5, q6, q7, q8, q9, q10, CS.i_setI, CS.l_setI, CS.r_setI, CS.a_setI, CS.q_setI, CS.z_setI, CS.i_setL, CS.l_setL, CS.r_setL, CS.a_setL, CS.q_setL, CS.z_setL, CS.i_setR, CS.l_setR, CS.r_setR, CS.a_setR, CS.q_setR, CS.z_setR, CS.i_setA, CS.l_setA, CS.r_setA, CS.a_setA, CS.q_setA, CS.z_setA, CS.i_setQ, CS.l_setQ, CS.r_setQ, CS.a_setQ, CS.q_setQ, CS.z_setQ, CS.i_setF, CS.l_setF, CS.r_setF, CS.a_setF, CS.q_setF, CS.z_setF, CS.i_new, CS.l_new, CS.r_new, CS.a_new, CS.q_new, CS.z_new, Nat.reduceEqDiff, false_and, true_and, and_false, and_true, if_true, if_false, b2_0, b2_1, b2_nn, n0_or, n1_or, n10, n01, dec1, dec2, ob_ok, oe_l, oe_r, gl_ok, gle_ok, gn_s, gv_ok, gv_none, on_none, onSome,u11, hroom]
              · unfold m_ract_J130
                rw [hfull]
                simp only [ob_ok]
                rw [if_neg (show ¬ b2 true = 0 by decide)]
                rfl
            · rw [if_neg hrm] at hroom
              rw [decide_eq_false hrm] at hfull
              simp only [not_or, Nat.not_lt] at hrm
              have hR4 : RS (S3.setI 0 (nI 0)) A := hR3.setI rfl
              obtain ⟨N4, C4, c, z, k1, k2, k3, G4, hA4, hv4, hfr4⟩ := cJ_writeOn (num := 0) (act := 9) (s := s) (x := x) G3 hA hv3 hr hl (by omega) (by omega) hsL.1 hsL.2.2 hsL.2.1 hx (by rw [← hyl]; omega) (by omega) (fun h => (cd_inV hA (by rw [hsL.2.1]; exact h) hne).2)
              obtain ⟨S6, m1, m2, m3, m4⟩ := pS_actE (S := S3.setI 0 (nI 0)) (bf := bf) (x3 := x3) (act := 9) (num := 0) hR4 hA hr hx hsm (Or.inl rfl) (by omega) (by rw [MS.i_setI, if_neg (by decide)]; exact h47) (by rw [MS.a_setI]; exact h46) (by rw [MS.i_setI, if_neg (by decide)]; exact w3) (byts_fr w4 (by rw [MS.a_setI])) c5 (by
                rcases hyl2 with ⟨h1, h2, h3, h4, h5⟩ | ⟨h1, h2, h3, h4, h5⟩
                · exact Or.inl ⟨h1, h2, h3, by omega⟩
                · exact Or.inr ⟨h2, h3, by rw [MS.i_setI, if_neg (by decide)]; exact h4⟩) (Lx := A.L x) (Os := insO A.id (8 * (A.tp r + 1) + r) A.n (A.O s))
              generalize hB : A.mk r x 9 0 0 none s (A.key s) ((A.cd r s).reverse.filter (fun c => !decide (9 = 10) || decide (A.act c = 5))) (if A.kd x = 6 then 0 else A.id s) (A.L x) (insO A.id (8 * (A.tp r + 1) + r) A.n (A.O s)) = B at G4 hA4 hv4 m2
              have hBn : B.n = A.n + 1 := by rw [← hB]; rfl
              have hBm : B.m = A.m := by rw [← hB]; rfl
              have hBi : B.id A.n = 8 * (A.tp r + 1) + r := by rw [← hB, mk_id, if_pos rfl]
              have hid : C4.i 3 0 (A.n + 1) = nI (8 * (A.tp r + 1) + r) := by
                have h := (G4.op A.n (by omega)).1
                rw [hBi] at h
                exact h
              have t3 := G4.nn.2.2.2.1
              rw [hBn] at t3
              refine Or.inl ⟨N4, C4, nI (8 * (A.tp r + 1) + r), 0 + c, 0 + z, S6, B, rd3 + 1, ?_, hwrap ?_ hS0, by rw [m4, MS.i_setI, if_pos rfl], ⟨m2, G4, hA4, bi, bf, bs, bo, ji, jf, js, 0, (hio3.fr ((frS_setI (k := 0) (v := nI 0) (by decide)).trans m3) hfr4)⟩, ?_, ?_, by omega, by omega, ?_, ?_⟩
              · unfold m_cJT_erase_J52
                simp (disch := omega) only [gd_ok, cl_nI, nI_s, nI_add, nI_leI, nI_ltI, nI_eq, if_pos, if_neg, q0, q1, q2, q3, q4, q5, q6, q7, q8, q9, q10, CS.i_setI, CS.l_setI, CS.r_setI, CS.a_setI, CS.q_setI, CS.z_setI, CS.i_setL, CS.l_setL, CS.r_setL, CS.a_setL, CS.q_setL, CS.z_setL, CS.i_setR, CS.l_setR, CS.r_setR, CS.a_setR, CS.q_setR, CS.z_setR, CS.i_setA, CS.l_setA, CS.r_setA, CS.a_setA, CS.q_setA, CS.z_setA, CS.i_setQ, CS.l_setQ, CS.r_setQ, CS.a_setQ, CS.q_setQ, CS.z_setQ, CS.i_setF, CS.l_setF, CS.r_setF, CS.a_setF, CS.q_setF, CS.z_setF, CS.i_new, CS.l_new, CS.r_new, CS.a_new, CS.q_new, CS.z_new, Nat.reduceEqDiff, false_and, true_and, and_false, and_true, if_true, if_false, b2_0, b2_1, b2_nn, n0_or, n1_or, n10, n01, dec1, dec2, ob_ok, oe_l, oe_r, gl_ok, gle_ok, gn_s, gv_ok, gv_none, on_none, onSome,u11, hroom, u7, u4, show m_cJT_writeOn N 0 C3 r (A.sj s) (nI 9) 0 = _ from k1, oq_ok, t3, al_ok, hid]
              · unfold m_ract_J130
                rw [hfull]
                simp only [ob_ok]
                rw [if_pos (show b2 false = 0 by decide)]
                exact m1
              · omega
              · omega
              · omega
              · omega
          · rw [if_neg hl] at hna hS0
            refine alikeT (t := 2) (k := 2) (C' := C3) (S1 := S3) (v := nI 0) ?_ (hwrap rfl hS0) rfl hR3 G3 hA hio3 r31 (by omega)
            unfold m_cJT_erase m_cJT_erase_J0
            simp (disch := omega) only [gd_ok, cl_nI, nI_s, nI_add, nI_leI, nI_ltI, nI_eq, if_pos, if_neg, q0, q1, q2, q3, q4, q5, q6, q7, q8, q9, q10, CS.i_setI, CS.l_setI, CS.r_setI, CS.a_setI, CS.q_setI, CS.z_setI, CS.i_setL, CS.l_setL, CS.r_setL, CS.a_setL, CS.q_setL, CS.z_setL, CS.i_setR, CS.l_setR, CS.r_setR, CS.a_setR, CS.q_setR, CS.z_setR, CS.i_setA, CS.l_setA, CS.r_setA, CS.a_setA, CS.q_setA, CS.z_setA, CS.i_setQ, CS.l_setQ, CS.r_setQ, CS.a_setQ, CS.q_setQ, CS.z_setQ, CS.i_setF, CS.l_setF, CS.r_setF, CS.a_setF, CS.q_setF, CS.z_setF, CS.i_new, CS.l_new, CS.r_new, CS.a_new, CS.q_new, CS.z_new, Nat.reduceEqDiff, false_and, true_and, and_false, and_true, if_true, if_false, b2_0, b2_1, b2_nn, n0_or, n1_or, n10, n01, dec1, dec2, ob_ok, oe_l, oe_r, gl_ok, gle_ok, gn_s, gv_ok, gv_none, on_none, onSome,u11, u4, htc, hsh, hnp, hpa, hna]
      · exact absurd hok h
    · rcases cJ_needPlace G2 hio2 f3 x3 with ⟨h, _⟩ | ⟨_, hnp⟩
      · exact absurd h hok
      · refine alikeT (t := 1) (k := 1) (C' := C2) (S1 := S1) (v := nI 0) ?_ (hwrap rfl (pS_actBad (by omega) htk hpt)) rfl hR1 G2 hA hio2 (Nat.le_refl _) (by omega)
        unfold m_cJT_erase m_cJT_erase_J0
        simp (disch := omega) only [gd_ok, cl_nI, nI_s, nI_add, nI_leI, nI_ltI, nI_eq, if_pos, if_neg, q0, q1, q2, q3, q4, q5, q6, q7, q8, q9, q10, CS.i_setI, CS.l_setI, CS.r_setI, CS.a_setI, CS.q_setI, CS.z_setI, CS.i_setL, CS.l_setL, CS.r_setL, CS.a_setL, CS.q_setL, CS.z_setL, CS.i_setR, CS.l_setR, CS.r_setR, CS.a_setR, CS.q_setR, CS.z_setR, CS.i_setA, CS.l_setA, CS.r_setA, CS.a_setA, CS.q_setA, CS.z_setA, CS.i_setQ, CS.l_setQ, CS.r_setQ, CS.a_setQ, CS.q_setQ, CS.z_setQ, CS.i_setF, CS.l_setF, CS.r_setF, CS.a_setF, CS.q_setF, CS.z_setF, CS.i_new, CS.l_new, CS.r_new, CS.a_new, CS.q_new, CS.z_new, Nat.reduceEqDiff, false_and, true_and, and_false, and_true, if_true, if_false, b2_0, b2_1, b2_nn, n0_or, n1_or, n10, n01, dec1, dec2, ob_ok, oe_l, oe_r, gl_ok, gle_ok, gn_s, gv_ok, gv_none, on_none, onSome,u11, htc, hsh, hnp]
end CER
