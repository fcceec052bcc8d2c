/-! THE CALL add. -/
section CAD
variable {S S' : MS} {N : Nat → Nat} {C C' : CS} {A : AS} {r rd : Nat} {bi bf bs bo : List Nat} {ji jf js a : Nat}
/-- the counters of a place -/
theorem cV_counters (G : RC N C A rd) (hA : AI A) (hv : VC C A r) {s : Nat} (hs : s < A.n) (hss : A.sp s = s) (hrd : rd < 2 ^ 30) :
    ∃ C1 C2, m_cVw_gather N 0 C (A.sj s) = some C1 ∧ m_cVw_keepCounters N 0 C1 = some C2 ∧ VR A C rd 1 C2 ∧ C1.r = C.r ∧ C2.i 10 3 0 = nI ((A.cd r s).filter (fun c => decide (A.act c = 5))).length := by
  obtain ⟨u0, u1, u2, u3, u4, u5, u6, u7, u8, u9, u10, u11, u12, u13, u14, u15, u16, u17, u18⟩ := G.nn
  obtain ⟨s1, s2, s3, s4, s5, s6, s7, s8, s9, s10, s11, s12, s13, s14, s15, s16, s17, s18, s19, s20, s21⟩ := G.st
  have hm : ∀ c, c ∈ A.cd r s → c < A.n := fun c hc => ((cd_mem hA).mp hc).1
  obtain ⟨g, h, h1, h2, h3, h4⟩ := cV_gather G hA hv hs hss hrd
  obtain ⟨h', k1, k2, k3⟩ := cV_keepCounters (C := C) (g := g) (h := h) (v := nI (rd + 1)) (cs := A.cd r s) (at_ := A.act) u10 (by omega) (fun c hc => by have := hm c hc; omega) s14 G.sz.2.1 (cd_len hA) h4 (fun c hc => ⟨(G.op c (hm c hc)).2.2.1, (hA.2.2.1.1 c (hm c hc)).2.2.2.2.1⟩)
  refine ⟨_, _, h1, k1, ⟨g, h', _, rd + 1, rfl, by omega, by omega, h2, ?_⟩, vs_r, ?_⟩
  · intro p y hy
    rcases k3 p y hy with h | ⟨c, hc, rfl⟩
    · exact h3 p y h
    · have := hm c hc
      omega
  · rw [vs_i, if_neg (by omega), if_pos (by omega)]
set_option maxHeartbeats 4000000 in
theorem call_add (hI : INV S N C A rd) (hrd : rd + 60000 < 2 ^ 30) (x1 x2 x3 : Int32) (x4 : Int64) : ALIKE [(1, 1), (2, 2), (3, 3), (4, 4)] A rd N (m_cJT_add N 0 C x1 x2 x3 x4) (m_radd S x1 x2 x3 x4) := by
  obtain ⟨hR, G, hA, bi, bf, bs, bo, ji, jf, js, a, hio⟩ := hI
  obtain ⟨u0, u1, u2, u3, u4, u5, u6, u7, u8, u9, u10, u11, u12, u13, u14, u15, u16, u17, u18⟩ := G.nn
  obtain ⟨s1, s2, s3, s4, s5, s6, s7, s8, s9, s10, s11, s12, s13, s14, s15, s16, s17, s18, s19, s20, s21⟩ := G.st
  have hnn := hA.1.1
  have hio0 := hio
  obtain ⟨⟨a1, a2, a3, a4, a5, a6, a7⟩, _, ⟨c1, c2, c3, c4, c5⟩, ⟨d1, d2, d3, d4, d5⟩, _, ⟨f1, f2, f3⟩, _⟩ := hio0
  have htk := pS_taken f1
  have htc := cJ_take u11 f2
  have hR1 : RS (S.setI 7 (nI 0)) A := hR.setI rfl
  have G1 : RC N (C.setI 11 11 0 (nI 0)) A rd := RC_take G
  have hio1 := hio.take
  have e5 : (S.setI 7 (nI 0)).i 5 = nI bf.length := c3
  generalize S.setI 7 (nI 0) = S1 at htk hR1 hio1 e5
  generalize C.setI 11 11 0 (nI 0) = C1 at htc G1 hio1
  have hwrap : ∀ {y : Option (MS × Int32)} {w : MS × Int32}, y = some w → m_ract S x1 x2 x3 10 x4 = y → m_radd S x1 x2 x3 x4 = some w := by
    intro y w h1 h2
    unfold m_radd m_radd_J0
    rw [h2, h1]
    rfl
  rcases rep_or x1 with hx1 | ⟨r, hr, rfl⟩
  · refine alikeT (t := 1) (k := 1) (C' := C1) (S1 := S1) (v := nI 0) ?_ (hwrap rfl (pS_actBad (by omega) htk (pS_pointN hx1))) rfl hR1 G1 hA hio1 (Nat.le_refl _) (by omega)
    unfold m_cJT_add m_cJT_add_J0
    simp (disch := omega) only [gd_ok, cl_nI, nI_s, nI_add, nI_leI, nI_ltI, nI_eq, if_pos, if_neg, q0, q1, q2, q3, q4, q5, q6, q7, q8, q9, q10, CS.i_setI, CS.l_setI, CS.r_setI, CS.a_setI, CS.q_setI, CS.z_setI, CS.i_setL, CS.l_setL, CS.r_setL, CS.a_setL, CS.q_setL, CS.z_setL, CS.i_setR, CS.l_setR, CS.r_setR, CS.a_setR, CS.q_setR, CS.z_setR, CS.i_setA, CS.l_setA, CS.r_setA, CS.a_setA, CS.q_setA, CS.z_setA, CS.i_setQ, CS.l_setQ, CS.r_setQ, CS.a_setQ, CS.q_setQ, CS.z_setQ, CS.i_setF, CS.l_setF, CS.r_setF, CS.a_setF, CS.q_setF, CS.z_setF, CS.i_new, CS.l_new, CS.r_new, CS.a_new, CS.q_new, CS.z_new, Nat.reduceEqDiff, false_and, true_and, and_false, and_true, if_true, if_false, b2_0, b2_1, b2_nn, n0_or, n1_or, n10, n01, dec1, dec2, ob_ok, oe_l, oe_r, gl_ok, gle_ok, gn_s, gv_ok, gv_none, on_none, onSome,u11, htc, cJ_shownN hx1]
  · obtain ⟨C2, hsh, G2, hv2, hfr2⟩ := cJ_shown G1 hA hr
    have hio2 := hio1.fr frS.refl hfr2
    rcases pS_point (S := S1) hr e5 c5 f3 x2 x3 (nI 3) with ⟨hok, hpt⟩ | ⟨hok, hpt⟩
    · rcases cJ_needPlace G2 hio2 f3 x3 with ⟨_, hnp⟩ | ⟨h, _⟩
      · have hplb : PLB S1 N C2 A r rd bf 3 x2 x3 := by
          by_cases h3 : x3 = -nI 1
          · rw [h3]
            exact place_key hR1 hA hr G2 hio2 hv2 hrd (hok.1 h3).2 3 x2
          · exact place_idx hR1 hA hr G2 hv2 hrd 3 x2 h3
        rcases hplb with ⟨C3, S3, t, k, hpa, hj, htkk, hR3, hfr3, hV3⟩ | ⟨C3, S3, x, s, hx, rfl, hsm, hpa, hj, hR3, hfr3, hV3, h47, h46, hcase⟩
        · obtain ⟨rd3, r31, r32, G3⟩ := hV3.toRC G2
          have hio3 := hio2.fr hfr3 hV3.fr
          have hC : m_cJT_add N 0 C (nI r) x2 x3 x4 = some (.inr (N, C3, t), 1, 6) := by
            unfold m_cJT_add m_cJT_add_J0
            simp (disch := omega) only [gd_ok, cl_nI, nI_s, nI_add, nI_leI, nI_ltI, nI_eq, if_pos, if_neg, q0, q1, q2, q3, q4, q5, q6, q7, q8, q9, q10, CS.i_setI, CS.l_setI, CS.r_setI, CS.a_setI, CS.q_setI, CS.z_setI, CS.i_setL, CS.l_setL, CS.r_setL, CS.a_setL, CS.q_setL, CS.z_setL, CS.i_setR, CS.l_setR, CS.r_setR, CS.a_setR, CS.q_setR, CS.z_setR, CS.i_setA, CS.l_setA, CS.r_setA, CS.a_setA, CS.q_setA, CS.z_setA, CS.i_setQ, CS.l_setQ, CS.r_setQ, CS.a_setQ, CS.q_setQ, CS.z_setQ, CS.i_setF, CS.l_setF, CS.r_setF, CS.a_setF, CS.q_setF, CS.z_setF, CS.i_new, CS.l_new, CS.r_new, CS.a_new, CS.q_new, CS.z_new, Nat.reduceEqDiff, false_and, true_and, and_false, and_true, if_true, if_false, b2_0, b2_1, b2_nn, n0_or, n1_or, n10, n01, dec1, dec2, ob_ok, oe_l, oe_r, gl_ok, gle_ok, gn_s, gv_ok, gv_none, on_none, onSome,u11, htc, hsh, hnp, hpa]
          rw [← hpt] at hj
          rcases htkk with ⟨rfl, rfl⟩ | ⟨rfl, rfl⟩
          · exact alikeT (t := 1) (k := 1) hC (hwrap rfl (pS_actBad (by omega) htk hj)) rfl hR3 G3 hA hio3 r31 (by omega)
          · exact alikeT (t := 3) (k := 3) hC (hwrap rfl (pS_actBad (by omega) htk hj)) rfl hR3 G3 hA hio3 r31 (by omega)
        · obtain ⟨rd3, r31, r32, G3⟩ := hV3.toRC G2
          have hv3 := hV3.toVC hv2
          have hio3 := hio2.fr hfr3 hV3.fr
          have hsfl := hsm
          unfold AS.fl at hsfl
          rw [List.mem_filter] at hsfl
          have hsL := L_mem hA hsfl.1
          have hsj := (G3.ln.1 s hsL.1 hsL.2.2).1
          have hcl := cd_len hA (r := r) (s := s)
          have hio5 := hio3
          obtain ⟨_, _, ⟨w1, w2, w3, w4, _⟩, _⟩ := hio5
          have e9 : C3.r 11 9 0 = some jf := hio3.1.2.1
          have hjf := w1.1
          have hllt := lk_lt hR3 hA hr
          have hne := flB_iff.mp hsfl.2
          -- how much of the row of kept bytes is wanted
          obtain ⟨yl, hyl⟩ : ∃ yl, yl = (A.key s).length := ⟨_, rfl⟩
          have hyl2 : (x3 = -nI 1 ∧ A.kd x = 6 ∧ A.key s = bf ∧ S3.i 52 = nI 0 ∧ yl = bf.length) ∨ (x3 ≠ -nI 1 ∧ nI 0 ≤ x3 ∧ A.kd x ≠ 6 ∧ S3.i 52 = nI (A.id s) ∧ yl = 0) := by
            rcases hcase with ⟨h1, h2, h3, h4⟩ | ⟨h1, h2, h3, h4⟩
            · exact Or.inl ⟨h1, h2, h3, h4, by rw [hyl, h3]⟩
            · refine Or.inr ⟨h1, h2, h3, h4, ?_⟩
              rw [hyl, (key_nil hA hsL.1).mpr (by rw [hsL.2.1]; exact h3)]
              rfl
          have hyl8 : yl ≤ 8192 := by omega
          have hL := pS_actL (A := A) h47 h46 hcl (fun c hc => by
            have hm := ((cd_mem hA).mp hc).1
            exact ⟨by omega, (hR3.2.1 c hm).2.2.2.1, (hA.2.2.1.1 c hm).2.2.2.2.1⟩) (nI r) (nI (A.oi x)) x3 10 x4 false
          rw [Bool.false_or] at hL
          obtain ⟨C4, C5, hga, hkc, hV5, hr4, h103⟩ := cV_counters G3 hA hv3 hsL.1 hsL.2.2 (by omega)
          have hr5 := hV5.rr
          have hio6 := hio3.fr frS.refl hV5.fr
          have hVt := hV3.trans r31 r32 hV5
          obtain ⟨rd5, r51, r52, G5⟩ := hVt.toRC G2
          have hv5 := hV5.toVC hv3
          have hvw3 : C3.r 11 2 0 = some 0 := G3.st.2.2.1
          have hvw4 : C4.r 11 2 0 = some 0 := by rw [hr4]; exact hvw3
          have hvw5 : C5.r 11 2 0 = some 0 := G5.st.2.2.1
          have hfl5 : ((A.cd r s).filter (fun c => decide (A.act c = 5))).length ≤ 8 := Nat.le_trans (List.length_filter_le _ _) hcl
          by_cases hany : (A.cd r s).any (fun c => decide (A.act c = 5)) = false
          · rw [hany] at hL
            have hz0 : ((A.cd r s).filter (fun c => decide (A.act c = 5))).length = 0 := by
              rw [List.length_eq_zero_iff, List.filter_eq_nil_iff]
              intro c hc h
              rw [List.any_eq_false] at hany
              exact hany c hc h
            rw [hz0] at h103
            refine alikeT (t := 3) (k := 3) (C' := C5) (S1 := S3) (v := nI 0) ?_ (hwrap (y := some (S3.setI 0 (nI 3), nI 0)) rfl ?_) rfl hR3 G5 hA hio6 r51 (by omega)
            · unfold m_cJT_add m_cJT_add_J0
              simp (disch := omega) only [gd_ok, cl_nI, nI_s, nI_add, nI_leI, nI_ltI, nI_eq, if_pos, if_neg, q0, q1, q2, q3, q4, q5, q6, q7, q8, q9, q10, CS.i_setI, CS.l_setI, CS.r_setI, CS.a_setI, CS.q_setI, CS.z_setI, CS.i_setL, CS.l_setL, CS.r_setL, CS.a_setL, CS.q_setL, CS.z_setL, CS.i_setR, CS.l_setR, CS.r_setR, CS.a_setR, CS.q_setR, CS.z_setR, CS.i_setA, CS.l_setA, CS.r_setA, CS.a_setA, CS.q_setA, CS.z_setA, CS.i_setQ, CS.l_setQ, CS.r_setQ, CS.a_setQ, CS.q_setQ, CS.z_setQ, CS.i_setF, CS.l_setF, CS.r_setF, CS.a_setF, CS.q_setF, CS.z_setF, CS.i_new, CS.l_new, CS.r_new, CS.a_new, CS.q_new, CS.z_new, Nat.reduceEqDiff, false_and, true_and, and_false, and_true, if_true, if_false, b2_0, b2_1, b2_nn, n0_or, n1_or, n10, n01, dec1, dec2, ob_ok, oe_l, oe_r, gl_ok, gle_ok, gn_s, gv_ok, gv_none, on_none, onSome,u11, u7, u10, htc, hsh, hnp, hpa, hvw3, hga, hvw4, hkc, hvw5, h103]
            · unfold m_ract m_ract_J0
              rw [htk]
              simp only [ob_ok]
              rw [show m_rpoint S1 (nI r) (nI (A.oi x)) x3 (nI a) 3 = some (S3, nI 0) from hpt.trans hj]
              simp only [ob_ok]
              rw [if_pos (show nI 0 = 0 by decide), if_neg (show ¬ (10 : Int32) = 9 by decide)]
              unfold m_ract_J42
              rw [show m_ract_L47 S3 (nI r) (nI (A.oi x)) x3 10 x4 0 0 = _ from hL]
              simp only [ob_ok]
              rw [if_pos (show b2 false = 0 by decide)]
              rfl
          have hany' : (A.cd r s).any (fun c => decide (A.act c = 5)) = true := by simpa using hany
          rw [hany'] at hL
          have hz1 : 0 < ((A.cd r s).filter (fun c => decide (A.act c = 5))).length := by
            rw [List.any_eq_true] at hany'
            obtain ⟨c, hc, h⟩ := hany'
            exact List.length_pos_iff.mpr (List.ne_nil_of_mem (List.mem_filter.mpr ⟨hc, h⟩))
          have e95 : C5.r 11 9 0 = some jf := by rw [hr5]; exact e9
          have w15 := hio6.2.2.1.1
          have hna := cJ_needAll G5 hr
          have hS0 : m_ract S (nI r) (nI (A.oi x)) x3 10 x4 = (if A.lk r = none then m_ract_J130 S3 (nI r) (nI (A.oi x)) x3 10 x4 (nI yl) (nI 1) else some (S3.setI 0 (nI 2), nI 0)) := by
            unfold m_ract m_ract_J0
            rw [htk]
            simp only [ob_ok]
            rw [show m_rpoint S1 (nI r) (nI (A.oi x)) x3 (nI a) 3 = some (S3, nI 0) from hpt.trans hj]
            simp only [ob_ok]
            rw [if_pos (show nI 0 = 0 by decide), if_neg (show ¬ (10 : Int32) = 9 by decide)]
            unfold m_ract_J42
            rw [show m_ract_L47 S3 (nI r) (nI (A.oi x)) x3 10 x4 0 0 = _ from hL]
            simp only [ob_ok]
            rw [if_neg (show ¬ b2 true = 0 by decide), gd_ok hr (by omega), cl_nI (by omega)]
            by_cases hl : A.lk r = none
            · rw [if_pos hl, if_pos (show S3.a 39 r < 0 from hllt.mpr hl)]
              rcases hyl2 with ⟨h1, _, _, _, h5⟩ | ⟨h1, h2, _, _, h5⟩
              · rw [h1, if_neg (show ¬ (0 : Int32) ≤ -nI 1 by decide), w3, h5]
                rfl
              · rw [if_pos (show (0 : Int32) ≤ x3 from h2), h5]
                rfl
            · rw [if_neg hl, if_neg (show ¬ S3.a 39 r < 0 from fun h => hl (hllt.mp h))]
              rfl
          by_cases hl : A.lk r = none
          · rw [if_pos hl] at hna hS0
            have hC0 : m_cJT_add N 0 C (nI r) (nI (A.oi x)) x3 x4 = m_cJT_add_J86 N 0 C5 x4 (some r) (some (A.sj s)) (nI yl) (nI 1) (some 0) := by
              unfold m_cJT_add m_cJT_add_J0
              rcases hyl2 with ⟨h1, _, _, _, h5⟩ | ⟨h1, h2, _, _, h5⟩
              · have h1' : x3 = -1 := h1.trans hm1.symm
                simp (disch := omega) only [gd_ok, cl_nI, nI_s, nI_add, nI_leI, nI_ltI, nI_eq, if_pos, if_neg, q0, q1, q2, q3, q4, q5, q6, q7, q8, q9, q10, CS.i_setI, CS.l_setI, CS.r_setI, CS.a_setI, CS.q_setI, CS.z_setI, CS.i_setL, CS.l_setL, CS.r_setL, CS.a_setL, CS.q_setL, CS.z_setL, CS.i_setR, CS.l_setR, CS.r_setR, CS.a_setR, CS.q_setR, CS.z_setR, CS.i_setA, CS.l_setA, CS.r_setA, CS.a_setA, CS.q_setA, CS.z_setA, CS.i_setQ, CS.l_setQ, CS.r_setQ, CS.a_setQ, CS.q_setQ, CS.z_setQ, CS.i_setF, CS.l_setF, CS.r_setF, CS.a_setF, CS.q_setF, CS.z_setF, CS.i_new, CS.l_new, CS.r_new, CS.a_new, CS.q_new, CS.z_new, Nat.reduceEqDiff, false_and, true_and, and_false, and_true, if_true, if_false, b2_0, b2_1, b2_nn, n0_or, n1_or, n10, n01, dec1, dec2, ob_ok, oe_l, oe_r, gl_ok, gle_ok, gn_s, gv_ok, gv_none, on_none, onSome,u11, u4, u5, htc, hsh, hnp, hpa, u7, u10, hvw3, hga, hvw4, hkc, hvw5, h103, hna, if_pos h1', e95, w15.2.2.1, h5]
              · have h1' : ¬ x3 = -1 := fun h => h1 (h.trans hm1)
                simp (disch := omega) only [gd_ok, cl_nI, nI_s, nI_add, nI_leI, nI_ltI, nI_eq, if_pos, if_neg, q0, q1, q2, q3, q4, q5, q6, q7, q8, q9, q10, CS.i_setI, CS.l_setI, CS.r_setI, CS.a_setI, CS.q_setI, CS.z_setI, CS.i_setL, CS.l_setL, CS.r_setL, CS.a_setL, CS.q_setL, CS.z_setL, CS.i_setR, CS.l_setR, CS.r_setR, CS.a_setR, CS.q_setR, CS.z_setR, CS.i_setA, CS.l_setA, CS.r_setA, CS.a_setA, CS.q_setA, CS.z_setA, CS.i_setQ, CS.l_setQ, CS.r_setQ, CS.a_setQ, CS.q_setQ, CS.z_setQ, CS.i_setF, CS.l_setF, CS.r_setF, CS.a_setF, CS.q_setF, CS.z_setF, CS.i_new, CS.l_new, CS.r_new, CS.a_new, CS.q_new, CS.z_new, Nat.reduceEqDiff, false_and, true_and, and_false, and_true, if_true, if_false, b2_0, b2_1, b2_nn, n0_or, n1_or, n10, n01, dec1, dec2, ob_ok, oe_l, oe_r, gl_ok, gle_ok, gn_s, gv_ok, gv_none, on_none, onSome,u11, u4, u5, htc, hsh, hnp, hpa, u7, u10, hvw3, hga, hvw4, hkc, hvw5, h103, hna, if_neg h1', h5]
            have hroom := cJ_needRoom G5 hA (x := 1) (y := yl) (by omega) (by omega)
            have hfull := pS_full hR3 hA (x := 1) (y := yl) (by omega) (by omega)
            rw [hC0]
            by_cases hrm : 4000 < A.n + 1 ∨ 24576 < A.kn + yl
            · rw [if_pos hrm] at hroom
              rw [decide_eq_true hrm] at hfull
              refine alikeT (t := 4) (k := 4) (C' := C5) (S1 := S3) (v := nI 0) ?_ (hwrap ?_ hS0) rfl hR3 G5 hA hio6 r51 (by omega)
              · unfold m_cJT_add_J86
                simp (disch := omega) only [gd_ok, cl_nI, nI_s, nI_add, nI_leI, nI_ltI, nI_eq, if_pos, if_neg, q0, q1, q2, q3, q4, q5, q6, q7, q8, q9, q10, CS.i_setI, CS.l_setI, CS.r_setI, CS.a_setI, CS.q_setI, CS.z_setI, CS.i_setL, CS.l_setL, CS.r_setL, CS.a_setL, CS.q_setL, CS.z_setL, CS.i_setR, CS.l_setR, CS.r_setR, CS.a_setR, CS.q_setR, CS.z_setR, CS.i_setA, CS.l_setA, CS.r_setA, CS.a_setA, CS.q_setA, CS.z_setA, CS.i_setQ, CS.l_setQ, CS.r_setQ, CS.a_setQ, CS.q_setQ, CS.z_setQ, CS.i_setF, CS.l_setF, CS.r_setF, CS.a_setF, CS.q_setF, CS.z_setF, CS.i_new, CS.l_new, CS.r_new, CS.a_new, CS.q_new, CS.z_new, Nat.reduceEqDiff, false_and, true_and, and_false, and_true, if_true, if_false, b2_0, b2_1, b2_nn, n0_or, n1_or, n10, n01, dec1, dec2, ob_ok, oe_l, oe_r, gl_ok, gle_ok, gn_s, gv_ok, gv_none, on_none, onSome,u11, hroom]
              · unfold m_ract_J130
                rw [hfull]
                simp only [ob_ok]
                rw [if_neg (show ¬ b2 true = 0 by decide)]
                rfl
            · rw [if_neg hrm] at hroom
              rw [decide_eq_false hrm] at hfull
              simp only [not_or, Nat.not_lt] at hrm
              have hR4 : RS (S3.setI 0 (nI 0)) A := hR3.setI rfl
              obtain ⟨N4, C6, c, z, k1, k2, k3, G4, hA4, hv4, hfr4⟩ := cJ_writeOn (num := x4) (act := 10) (s := s) (x := x) G5 hA hv5 hr hl (by omega) (by omega) hsL.1 hsL.2.2 hsL.2.1 hx (by rw [← hyl]; omega) (by omega) (fun h => (cd_inV hA (by rw [hsL.2.1]; exact h) hne).2)
              obtain ⟨S6, m1, m2, m3, m4⟩ := pS_actE (S := S3.setI 0 (nI 0)) (bf := bf) (x3 := x3) (act := 10) (num := x4) hR4 hA hr hx hsm (Or.inr rfl) (by omega) (by rw [MS.i_setI, if_neg (by decide)]; exact h47) (by rw [MS.a_setI]; exact h46) (by rw [MS.i_setI, if_neg (by decide)]; exact w3) (byts_fr w4 (by rw [MS.a_setI])) c5 (by
                rcases hyl2 with ⟨h1, h2, h3, h4, h5⟩ | ⟨h1, h2, h3, h4, h5⟩
                · exact Or.inl ⟨h1, h2, h3, by omega⟩
                · exact Or.inr ⟨h2, h3, by rw [MS.i_setI, if_neg (by decide)]; exact h4⟩) (Lx := A.L x) (Os := insO A.id (8 * (A.tp r + 1) + r) A.n (A.O s))
              generalize hB : A.mk r x 10 x4 0 none s (A.key s) ((A.cd r s).reverse.filter (fun c => !decide (10 = 10) || decide (A.act c = 5))) (if A.kd x = 6 then 0 else A.id s) (A.L x) (insO A.id (8 * (A.tp r + 1) + r) A.n (A.O s)) = B at G4 hA4 hv4 m2
              have hBn : B.n = A.n + 1 := by rw [← hB]; rfl
              have hBm : B.m = A.m := by rw [← hB]; rfl
              have hBi : B.id A.n = 8 * (A.tp r + 1) + r := by rw [← hB, mk_id, if_pos rfl]
              have hid : C6.i 3 0 (A.n + 1) = nI (8 * (A.tp r + 1) + r) := by
                have h := (G4.op A.n (by omega)).1
                rw [hBi] at h
                exact h
              have t3 := G4.nn.2.2.2.1
              rw [hBn] at t3
              refine Or.inl ⟨N4, C6, nI (8 * (A.tp r + 1) + r), 0 + c, 0 + z, S6, B, rd5 + 1, ?_, hwrap ?_ hS0, by rw [m4, MS.i_setI, if_pos rfl], ⟨m2, G4, hA4, bi, bf, bs, bo, ji, jf, js, 0, (hio6.fr ((frS_setI (k := 0) (v := nI 0) (by decide)).trans m3) hfr4)⟩, ?_, ?_, by omega, by omega, ?_, ?_⟩
              · unfold m_cJT_add_J86
                simp (disch := omega) only [gd_ok, cl_nI, nI_s, nI_add, nI_leI, nI_ltI, nI_eq, if_pos, if_neg, q0, q1, q2, q3, q4, q5, q6, q7, q8, q9, q10, CS.i_setI, CS.l_setI, CS.r_setI, CS.a_setI, CS.q_setI, CS.z_setI, CS.i_setL, CS.l_setL, CS.r_setL, CS.a_setL, CS.q_setL, CS.z_setL, CS.i_setR, CS.l_setR, CS.r_setR, CS.a_setR, CS.q_setR, CS.z_setR, CS.i_setA, CS.l_setA, CS.r_setA, CS.a_setA, CS.q_setA, CS.z_setA, CS.i_setQ, CS.l_setQ, CS.r_setQ, CS.a_setQ, CS.q_setQ, CS.z_setQ, CS.i_setF, CS.l_setF, CS.r_setF, CS.a_setF, CS.q_setF, CS.z_setF, CS.i_new, CS.l_new, CS.r_new, CS.a_new, CS.q_new, CS.z_new, Nat.reduceEqDiff, false_and, true_and, and_false, and_true, if_true, if_false, b2_0, b2_1, b2_nn, n0_or, n1_or, n10, n01, dec1, dec2, ob_ok, oe_l, oe_r, gl_ok, gle_ok, gn_s, gv_ok, gv_none, on_none, onSome,u11, hroom, u7, u4, show m_cJT_writeOn N 0 C5 r (A.sj s) (nI 10) x4 = _ from k1, oq_ok, t3, al_ok, hid]
              · unfold m_ract_J130
                rw [hfull]
                simp only [ob_ok]
                rw [if_pos (show b2 false = 0 by decide)]
                exact m1
              · omega
              · omega
              · omega
              · omega
          · rw [if_neg hl] at hna hS0
            refine alikeT (t := 2) (k := 2) (C' := C5) (S1 := S3) (v := nI 0) ?_ (hwrap rfl hS0) rfl hR3 G5 hA hio6 r51 (by omega)
            unfold m_cJT_add m_cJT_add_J0
            simp (disch := omega) only [gd_ok, cl_nI, nI_s, nI_add, nI_leI, nI_ltI, nI_eq, if_pos, if_neg, q0, q1, q2, q3, q4, q5, q6, q7, q8, q9, q10, CS.i_setI, CS.l_setI, CS.r_setI, CS.a_setI, CS.q_setI, CS.z_setI, CS.i_setL, CS.l_setL, CS.r_setL, CS.a_setL, CS.q_setL, CS.z_setL, CS.i_setR, CS.l_setR, CS.r_setR, CS.a_setR, CS.q_setR, CS.z_setR, CS.i_setA, CS.l_setA, CS.r_setA, CS.a_setA, CS.q_setA, CS.z_setA, CS.i_setQ, CS.l_setQ, CS.r_setQ, CS.a_setQ, CS.q_setQ, CS.z_setQ, CS.i_setF, CS.l_setF, CS.r_setF, CS.a_setF, CS.q_setF, CS.z_setF, CS.i_new, CS.l_new, CS.r_new, CS.a_new, CS.q_new, CS.z_new, Nat.reduceEqDiff, false_and, true_and, and_false, and_true, if_true, if_false, b2_0, b2_1, b2_nn, n0_or, n1_or, n10, n01, dec1, dec2, ob_ok, oe_l, oe_r, gl_ok, gle_ok, gn_s, gv_ok, gv_none, on_none, onSome,u11, u4, u7, u10, htc, hsh, hnp, hpa, hvw3, hga, hvw4, hkc, hvw5, h103, hna]
      · exact absurd hok h
    · rcases cJ_needPlace G2 hio2 f3 x3 with ⟨h, _⟩ | ⟨_, hnp⟩
      · exact absurd h hok
      · refine alikeT (t := 1) (k := 1) (C' := C2) (S1 := S1) (v := nI 0) ?_ (hwrap rfl (pS_actBad (by omega) htk hpt)) rfl hR1 G2 hA hio2 (Nat.le_refl _) (by omega)
        unfold m_cJT_add m_cJT_add_J0
        simp (disch := omega) only [gd_ok, cl_nI, nI_s, nI_add, nI_leI, nI_ltI, nI_eq, if_pos, if_neg, q0, q1, q2, q3, q4, q5, q6, q7, q8, q9, q10, CS.i_setI, CS.l_setI, CS.r_setI, CS.a_setI, CS.q_setI, CS.z_setI, CS.i_setL, CS.l_setL, CS.r_setL, CS.a_setL, CS.q_setL, CS.z_setL, CS.i_setR, CS.l_setR, CS.r_setR, CS.a_setR, CS.q_setR, CS.z_setR, CS.i_setA, CS.l_setA, CS.r_setA, CS.a_setA, CS.q_setA, CS.z_setA, CS.i_setQ, CS.l_setQ, CS.r_setQ, CS.a_setQ, CS.q_setQ, CS.z_setQ, CS.i_setF, CS.l_setF, CS.r_setF, CS.a_setF, CS.q_setF, CS.z_setF, CS.i_new, CS.l_new, CS.r_new, CS.a_new, CS.q_new, CS.z_new, Nat.reduceEqDiff, false_and, true_and, and_false, and_true, if_true, if_false, b2_0, b2_1, b2_nn, n0_or, n1_or, n10, n01, dec1, dec2, ob_ok, oe_l, oe_r, gl_ok, gle_ok, gn_s, gv_ok, gv_none, on_none, onSome,u11, htc, hsh, hnp]
end CAD
