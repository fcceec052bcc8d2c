/-! THE CALL candidate. -/
section CCA
variable {S S' : MS} {N : Nat → Nat} {C C' : CS} {A : AS} {r rd : Nat} {bi bf bs bo : List Nat} {ji jf js a : Nat}
theorem x5_or (x : Int32) : (x < nI 0 ∨ ¬ x ≤ nI 4) ∨ ∃ q, q ≤ 4 ∧ x = nI q := by
  by_cases h : x < nI 0
  · exact Or.inl (Or.inl h)
  · obtain ⟨q, hq, rfl⟩ := nI_of h
    by_cases h4 : q ≤ 4
    · exact Or.inr ⟨q, h4, rfl⟩
    · exact Or.inl (Or.inr (fun h2 => h4 ((nI_leI (by omega) (by omega)).mp h2)))
set_option maxHeartbeats 4000000 in
theorem call_candidate (hI : INV S N C A rd) (hrd : rd + 60000 < 2 ^ 30) (x1 x2 x3 x4 x5 : Int32) : RLIKE [(1, 1), (3, 2)] A rd N (m_cJT_candidate N 0 C x1 x2 x3 x4 x5) (m_rcandidate S x1 x2 x3 x4 x5) := by
  obtain ⟨hR, G, hA, bi, bf, bs, bo, ji, jf, js, a, hio⟩ := hI
  obtain ⟨u0, u1, u2, u3, u4, u5, u6, u7, u8, u9, u10, u11, u12, u13, u14, u15, u16, u17, u18⟩ := G.nn
  obtain ⟨s1, s2, s3, s4, s5, s6, s7, s8, s9, s10, s11, s12, s13, s14, s15, s16, s17, s18, s19, s20, s21⟩ := G.st
  have hnn := hA.1.1
  have hio0 := hio
  obtain ⟨⟨a1, a2, a3, a4, a5, a6, a7⟩, _, ⟨c1, c2, c3, c4, c5⟩, _, _, ⟨f1, f2, f3⟩, _⟩ := hio0
  have htk := pS_taken f1
  have htc := cJ_take u11 f2
  have hR1 : RS (S.setI 7 (nI 0)) A := hR.setI rfl
  have G1 : RC N (C.setI 11 11 0 (nI 0)) A rd := RC_take G
  have hio1 := hio.take
  have e5 : (S.setI 7 (nI 0)).i 5 = nI bf.length := c3
  generalize S.setI 7 (nI 0) = S1 at htk hR1 hio1 e5
  generalize C.setI 11 11 0 (nI 0) = C1 at htc G1 hio1
  -- the reference: which is wanted, then the place
  have hSbad : (x5 < nI 0 ∨ ¬ x5 ≤ nI 4) → m_rcandidate S x1 x2 x3 x4 x5 = some (S1.setI 0 (nI 1), (nI 0).toInt64) := by
    intro h
    unfold m_rcandidate m_rcandidate_J0 m_rcandidate_J17
    rw [htk]
    simp only [ob_ok]
    by_cases c : x5 < nI 0
    · rw [if_pos (show x5 < 0 from c)]
      rfl
    · rw [if_neg (show ¬ x5 < 0 from c), if_neg (show ¬ x5 ≤ 4 from h.resolve_left c)]
      rfl
  have hSpt : ∀ {q k : Nat} {S3 : MS}, q ≤ 4 → x5 = nI q → 1 ≤ k ∧ k ≤ 2 → m_rpoint S1 x1 x2 x3 (nI a) (nI 2) = some (S3, nI k) → m_rcandidate S x1 x2 x3 x4 x5 = some (S3.setI 0 (nI k), (nI 0).toInt64) := by
    intro q k S3 hq hx5 hk hp
    unfold m_rcandidate m_rcandidate_J0
    rw [htk]
    simp only [ob_ok]
    rw [hx5, if_neg (show ¬ nI q < 0 from fun h => absurd ((nI_ltI (b := 0) (by omega) (by omega)).mp h) (by omega)), if_pos (show nI q ≤ 4 from (nI_leI (b := 4) (by omega) (by omega)).mpr hq)]
    rw [show m_rpoint S1 x1 x2 x3 (nI a) 2 = _ from hp]
    simp only [ob_ok]
    rw [if_neg (show ¬ nI k = 0 from fun h => by
      have := (nI_eq (by omega) (by omega)).mp (h.trans q0)
      omega), pS_no]
    rfl
  rcases rep_or x1 with hx1 | ⟨r, hr, rfl⟩
  · refine rlikeT (t := 1) (k := 1) (C' := C1) (S1 := S1) (v := (nI 0).toInt64) ?_ ?_ rfl hR1 G1 hA hio1 (Nat.le_refl _) (by omega)
    · unfold m_cJT_candidate m_cJT_candidate_J0
      simp only [htc, ob_ok, cJ_shownN hx1, oe_r, gl_ok (show 0 < N 11 by omega)]
    · rcases x5_or x5 with h | ⟨q, hq, h⟩
      · exact hSbad h
      · exact hSpt hq h (by omega) (pS_pointN hx1)
  · obtain ⟨C2, hsh, G2, hv2, hfr2⟩ := cJ_shown G1 hA hr
    have hio2 := hio1.fr frS.refl hfr2
    have hgl : 0 < N 11 := by omega
    rcases pS_point (S := S1) hr e5 c5 f3 x2 x3 (nI 2) with ⟨hok, hpt⟩ | ⟨hok, hpt⟩
    · rcases cJ_needPlace G2 hio2 f3 x3 with ⟨_, hnp⟩ | ⟨h, _⟩
      · have hC0 : m_cJT_candidate N 0 C (nI r) x2 x3 x4 x5 = (if x5 < 0 then m_cJT_candidate_J30 N 0 C2 else (if x5 ≤ 4 then oe (m_cJT_placeAt N 0 C2 x2 x3) (fun o_11 => gn o_11.2 (N 7) (fun j_14 => gn (C2.r 11 2 0) (N 10) (fun j_17 => ob (m_cVw_gather N j_17 o_11.1 j_14) (fun o_20 => (if x4 < 0 then m_cJT_candidate_J68 N 0 o_20 else gn (o_20.r 11 2 0) (N 10) (fun j_23 => (if x4 < o_20.i 10 3 j_23 then gn (o_20.r 10 2 j_23) (N 15) (fun j_27 => gd x4 (o_20.z 15 j_27) ((if x5 = 0 then gn (o_20.q 15 j_27 x4.toNatClampNeg) (N 3) (fun j_32 => some (.inl (o_20, (o_20.i 3 2 j_32).toInt64))) else (if x5 = 1 then gn (o_20.q 15 j_27 x4.toNatClampNeg) (N 3) (fun j_36 => some (.inl (o_20, (o_20.i 3 0 j_36).toInt64))) else (if x5 = 2 then gn (o_20.q 15 j_27 x4.toNatClampNeg) (N 3) (fun j_40 => ob (m_cVw_numberOf N j_23 o_20 j_40) (fun o_43 => some (.inl (o_43.1, o_43.2)))) else (if x5 = 3 then gn (o_20.q 15 j_27 x4.toNatClampNeg) (N 3) (fun j_46 => some (.inl (o_20, (o_20.i 3 10 j_46).toInt64))) else some (.inl (o_20, (o_20.i 10 3 j_23).toInt64)))))))) else m_cJT_candidate_J68 N 0 o_20))))))) (fun t_13 => some (.inr t_13)) else m_cJT_candidate_J30 N 0 C2)) := by
          unfold m_cJT_candidate m_cJT_candidate_J0
          simp only [htc, ob_ok, hsh, oe_l, hnp, gl_ok hgl]
        rw [hC0]
        clear hC0
        rcases x5_or x5 with h5 | ⟨q, hq, h5⟩
        · refine rlikeT (t := 1) (k := 1) (C' := C2) (S1 := S1) (v := (nI 0).toInt64) ?_ (hSbad h5) rfl hR1 G2 hA hio2 (Nat.le_refl _) (by omega)
          by_cases c : x5 < nI 0
          · rw [if_pos (show x5 < 0 from c)]
            rfl
          · rw [if_neg (show ¬ x5 < 0 from c), if_neg (show ¬ x5 ≤ 4 from h5.resolve_left c)]
            rfl
        · have n1 : ¬ x5 < 0 := by
            rw [h5]
            exact fun h => absurd ((nI_ltI (b := 0) (by omega) (by omega)).mp h) (by omega)
          have n2 : x5 ≤ 4 := by
            rw [h5]
            exact (nI_leI (b := 4) (by omega) (by omega)).mpr hq
          rw [if_neg n1, if_pos n2]
          have hplb : PLB S1 N C2 A r rd bf 2 x2 x3 := by
            by_cases h3 : x3 = -nI 1
            · rw [h3]
              exact place_key hR1 hA hr G2 hio2 hv2 hrd (hok.1 h3).2 2 x2
            · exact place_idx hR1 hA hr G2 hv2 hrd 2 x2 h3
          rcases hplb with ⟨C3, S3, t, k, hpa, hj, htkk, hR3, hfr3, hV3⟩ | ⟨C3, S3, x, s, hx, rfl, hsm, hpa, hj, hR3, hfr3, hV3, h47, h46, hcase⟩
          · obtain ⟨rd3, r31, r32, G3⟩ := hV3.toRC G2
            have hio3 := hio2.fr hfr3 hV3.fr
            rw [← hpt] at hj
            rw [hpa]
            rcases htkk with ⟨rfl, rfl⟩ | ⟨rfl, rfl⟩
            · exact rlikeT (t := 1) (k := 1) (C' := C3) rfl (hSpt hq h5 (by omega) hj) rfl hR3 G3 hA hio3 r31 (by omega)
            · exact rlikeT (t := 3) (k := 2) (C' := C3) rfl (hSpt hq h5 (by omega) hj) rfl hR3 G3 hA hio3 r31 (by omega)
          · obtain ⟨rd3, r31, r32, G3⟩ := hV3.toRC G2
            have hv3 := hV3.toVC hv2
            have hsfl := hsm
            unfold AS.fl at hsfl
            rw [List.mem_filter] at hsfl
            have hsL := L_mem hA hsfl.1
            have hsj := (G3.ln.1 s hsL.1 hsL.2.2).1
            have hcl := cd_len hA (r := r) (s := s)
            obtain ⟨C4, hga, hV4, G4, h103, h15⟩ := cV_gatherV G3 hA hv3 hsL.1 hsL.2.2 (by omega)
            have hv4 := hV4.toVC hv3
            have hio4 := (hio2.fr hfr3 hV3.fr).fr frS.refl hV4.fr
            have hvw2 : C2.r 11 2 0 = some 0 := G2.st.2.2.1
            have hvw4 : C4.r 11 2 0 = some 0 := G4.st.2.2.1
            have h102 : C4.r 10 2 0 = some 1 := G4.st.2.2.2.2.2.2.2.2.2.2.2.2.2.1
            have hz15 : C4.z 15 1 = 8 := G4.sz.2.1
            have hS0 : m_rcandidate S (nI r) (nI (A.oi x)) x3 x4 x5 = (if x4 < 0 then m_rcandidate_J63 S3 else (if x4 < nI (A.cd r s).length then gd x4 4000 ((if x5 = 0 then gd (S3.a 46 x4.toNatClampNeg) 4000 (some ((S3.setI 0 0), (S3.a 11 ((S3.a 46 x4.toNatClampNeg).toNatClampNeg)).toInt64)) else (if x5 = 1 then gd (S3.a 46 x4.toNatClampNeg) 4000 (some ((S3.setI 0 0), (S3.a 8 ((S3.a 46 x4.toNatClampNeg).toNatClampNeg)).toInt64)) else (if x5 = 2 then gd (S3.a 46 x4.toNatClampNeg) 4000 ((if S3.a 11 ((S3.a 46 x4.toNatClampNeg).toNatClampNeg) = 5 then ob (m_rcounter (S3.setI 0 0) (nI r) (S3.a 46 x4.toNatClampNeg)) (fun o_19 => m_rcandidate_J162 o_19.1 o_19.2) else gd (S3.a 46 x4.toNatClampNeg) 4000 (m_rcandidate_J162 (S3.setI 0 0) (S3.n 22 ((S3.a 46 x4.toNatClampNeg).toNatClampNeg))))) else (if x5 = 3 then gd (S3.a 46 x4.toNatClampNeg) 4000 (some ((S3.setI 0 0), (S3.a 17 ((S3.a 46 x4.toNatClampNeg).toNatClampNeg)).toInt64)) else some ((S3.setI 0 0), (nI (A.cd r s).length).toInt64)))))) else m_rcandidate_J63 S3)) := by
              unfold m_rcandidate m_rcandidate_J0
              rw [htk]
              simp only [ob_ok]
              rw [if_neg n1, if_pos n2, show m_rpoint S1 (nI r) (nI (A.oi x)) x3 (nI a) 2 = some (S3, nI 0) from hpt.trans hj]
              simp only [ob_ok, h47]
              rw [if_pos (show nI 0 = 0 by decide)]
            rw [hS0, hpa]
            have hsn := hsL.1
            by_cases hbad : x4 < nI 0 ∨ ¬ x4 < nI (A.cd r s).length
            · refine rlikeT (t := 3) (k := 2) (C' := C4) (S1 := S3) (v := (nI 0).toInt64) ?_ ?_ rfl hR3 G4 hA hio4 (by omega) (by omega)
              · unfold m_cJT_candidate_J68
                simp (disch := omega) only [gd_ok, cl_nI, nI_s, nI_add, nI_leI, nI_ltI, nI_eq, if_pos, if_neg, q0, q1, q2, q3, q4, q5, q6, q7, q8, q9, q10, CS.i_setI, CS.l_setI, CS.r_setI, CS.a_setI, CS.q_setI, CS.z_setI, CS.i_setL, CS.l_setL, CS.r_setL, CS.a_setL, CS.q_setL, CS.z_setL, CS.i_setR, CS.l_setR, CS.r_setR, CS.a_setR, CS.q_setR, CS.z_setR, CS.i_setA, CS.l_setA, CS.r_setA, CS.a_setA, CS.q_setA, CS.z_setA, CS.i_setQ, CS.l_setQ, CS.r_setQ, CS.a_setQ, CS.q_setQ, CS.z_setQ, CS.i_setF, CS.l_setF, CS.r_setF, CS.a_setF, CS.q_setF, CS.z_setF, CS.i_new, CS.l_new, CS.r_new, CS.a_new, CS.q_new, CS.z_new, Nat.reduceEqDiff, false_and, true_and, and_false, and_true, if_true, if_false, b2_0, b2_1, b2_nn, n0_or, n1_or, n10, n01, dec1, dec2, ob_ok, oe_l, oe_r, gl_ok, gle_ok, gn_s, gv_ok, gv_none, on_none, onSome,u7, u10, hvw2, hga, hvw4, h103]
                by_cases c : x4 < nI 0
                · rw [if_pos c]
                · rw [if_neg c, if_neg (hbad.resolve_left c)]
              · by_cases c : x4 < nI 0
                · rw [if_pos (show x4 < 0 from c)]
                  rfl
                · rw [if_neg (show ¬ x4 < 0 from c), if_neg (hbad.resolve_left c)]
                  rfl
            · have h1 : ¬ x4 < nI 0 := fun h => hbad (Or.inl h)
              obtain ⟨p, hp31, rfl⟩ := nI_of h1
              have hp : p < (A.cd r s).length := by
                rcases Nat.lt_or_ge p (A.cd r s).length with h | h
                · exact h
                · exact absurd (Or.inr (fun h2 => absurd ((nI_ltI (by omega) (by omega)).mp h2) (by omega))) hbad
              have hq15 := h15 p hp
              have h46p := h46 p hp
              have hcm := (cd_mem hA).mp (List.getElem_mem hp)
              generalize (A.cd r s)[p] = c at *
              have hc := hcm.1
              have hop := G4.op c hc
              have hro := hR3.2.1 c hc
              have hac := (hA.2.2.1.1 c hc).2.2.2.2.1
              have hnum := cV_numberOf G4 hA hv4 hc (by rw [hcm.2.1]; exact hsL.2.2) (by rw [hcm.2.1]; exact hsL.1)
              have hct := pS_counter (S := S3.setI 0 (nI 0)) (hR3.setI rfl) hA hr hc
              have h17 := (hR3.2.2.1 c hc).2.2.2.1
              refine rlikeV (C' := C4) (S1 := S3) (v := if q = 0 then (nI (A.act c)).toInt64 else if q = 1 then (nI (A.id c)).toInt64 else if q = 2 then (if A.act c = 5 then A.ctr r c else A.num c) else if q = 3 then (nI (A.str c).length).toInt64 else (nI (A.cd r s).length).toInt64) ?_ ?_ hR3 G4 hA hio4 (by omega) (by omega)
              · rw [h5]
                rcases (by omega : q = 0 ∨ q = 1 ∨ q = 2 ∨ q = 3 ∨ q = 4) with rfl | rfl | rfl | rfl | rfl
                · simp (disch := omega) only [gd_ok, cl_nI, nI_s, nI_add, nI_leI, nI_ltI, nI_eq, if_pos, if_neg, q0, q1, q2, q3, q4, q5, q6, q7, q8, q9, q10, CS.i_setI, CS.l_setI, CS.r_setI, CS.a_setI, CS.q_setI, CS.z_setI, CS.i_setL, CS.l_setL, CS.r_setL, CS.a_setL, CS.q_setL, CS.z_setL, CS.i_setR, CS.l_setR, CS.r_setR, CS.a_setR, CS.q_setR, CS.z_setR, CS.i_setA, CS.l_setA, CS.r_setA, CS.a_setA, CS.q_setA, CS.z_setA, CS.i_setQ, CS.l_setQ, CS.r_setQ, CS.a_setQ, CS.q_setQ, CS.z_setQ, CS.i_setF, CS.l_setF, CS.r_setF, CS.a_setF, CS.q_setF, CS.z_setF, CS.i_new, CS.l_new, CS.r_new, CS.a_new, CS.q_new, CS.z_new, Nat.reduceEqDiff, false_and, true_and, and_false, and_true, if_true, if_false, b2_0, b2_1, b2_nn, n0_or, n1_or, n10, n01, dec1, dec2, ob_ok, oe_l, oe_r, gl_ok, gle_ok, gn_s, gv_ok, gv_none, on_none, onSome,u3, u7, u10, hvw2, hga, hvw4, h103, h102, u15, hz15, hq15, hop.2.2.1]
                · simp (disch := omega) only [gd_ok, cl_nI, nI_s, nI_add, nI_leI, nI_ltI, nI_eq, if_pos, if_neg, q0, q1, q2, q3, q4, q5, q6, q7, q8, q9, q10, CS.i_setI, CS.l_setI, CS.r_setI, CS.a_setI, CS.q_setI, CS.z_setI, CS.i_setL, CS.l_setL, CS.r_setL, CS.a_setL, CS.q_setL, CS.z_setL, CS.i_setR, CS.l_setR, CS.r_setR, CS.a_setR, CS.q_setR, CS.z_setR, CS.i_setA, CS.l_setA, CS.r_setA, CS.a_setA, CS.q_setA, CS.z_setA, CS.i_setQ, CS.l_setQ, CS.r_setQ, CS.a_setQ, CS.q_setQ, CS.z_setQ, CS.i_setF, CS.l_setF, CS.r_setF, CS.a_setF, CS.q_setF, CS.z_setF, CS.i_new, CS.l_new, CS.r_new, CS.a_new, CS.q_new, CS.z_new, Nat.reduceEqDiff, false_and, true_and, and_false, and_true, if_true, if_false, b2_0, b2_1, b2_nn, n0_or, n1_or, n10, n01, dec1, dec2, ob_ok, oe_l, oe_r, gl_ok, gle_ok, gn_s, gv_ok, gv_none, on_none, onSome,u3, u7, u10, hvw2, hga, hvw4, h103, h102, u15, hz15, hq15, hop.1]
                · simp (disch := omega) only [gd_ok, cl_nI, nI_s, nI_add, nI_leI, nI_ltI, nI_eq, if_pos, if_neg, q0, q1, q2, q3, q4, q5, q6, q7, q8, q9, q10, CS.i_setI, CS.l_setI, CS.r_setI, CS.a_setI, CS.q_setI, CS.z_setI, CS.i_setL, CS.l_setL, CS.r_setL, CS.a_setL, CS.q_setL, CS.z_setL, CS.i_setR, CS.l_setR, CS.r_setR, CS.a_setR, CS.q_setR, CS.z_setR, CS.i_setA, CS.l_setA, CS.r_setA, CS.a_setA, CS.q_setA, CS.z_setA, CS.i_setQ, CS.l_setQ, CS.r_setQ, CS.a_setQ, CS.q_setQ, CS.z_setQ, CS.i_setF, CS.l_setF, CS.r_setF, CS.a_setF, CS.q_setF, CS.z_setF, CS.i_new, CS.l_new, CS.r_new, CS.a_new, CS.q_new, CS.z_new, Nat.reduceEqDiff, false_and, true_and, and_false, and_true, if_true, if_false, b2_0, b2_1, b2_nn, n0_or, n1_or, n10, n01, dec1, dec2, ob_ok, oe_l, oe_r, gl_ok, gle_ok, gn_s, gv_ok, gv_none, on_none, onSome,u3, u7, u10, hvw2, hga, hvw4, h103, h102, u15, hz15, hq15, hnum]
                · simp (disch := omega) only [gd_ok, cl_nI, nI_s, nI_add, nI_leI, nI_ltI, nI_eq, if_pos, if_neg, q0, q1, q2, q3, q4, q5, q6, q7, q8, q9, q10, CS.i_setI, CS.l_setI, CS.r_setI, CS.a_setI, CS.q_setI, CS.z_setI, CS.i_setL, CS.l_setL, CS.r_setL, CS.a_setL, CS.q_setL, CS.z_setL, CS.i_setR, CS.l_setR, CS.r_setR, CS.a_setR, CS.q_setR, CS.z_setR, CS.i_setA, CS.l_setA, CS.r_setA, CS.a_setA, CS.q_setA, CS.z_setA, CS.i_setQ, CS.l_setQ, CS.r_setQ, CS.a_setQ, CS.q_setQ, CS.z_setQ, CS.i_setF, CS.l_setF, CS.r_setF, CS.a_setF, CS.q_setF, CS.z_setF, CS.i_new, CS.l_new, CS.r_new, CS.a_new, CS.q_new, CS.z_new, Nat.reduceEqDiff, false_and, true_and, and_false, and_true, if_true, if_false, b2_0, b2_1, b2_nn, n0_or, n1_or, n10, n01, dec1, dec2, ob_ok, oe_l, oe_r, gl_ok, gle_ok, gn_s, gv_ok, gv_none, on_none, onSome,u3, u7, u10, hvw2, hga, hvw4, h103, h102, u15, hz15, hq15, hop.2.2.2.2.2.2.2.2.2.1]
                · simp (disch := omega) only [gd_ok, cl_nI, nI_s, nI_add, nI_leI, nI_ltI, nI_eq, if_pos, if_neg, q0, q1, q2, q3, q4, q5, q6, q7, q8, q9, q10, CS.i_setI, CS.l_setI, CS.r_setI, CS.a_setI, CS.q_setI, CS.z_setI, CS.i_setL, CS.l_setL, CS.r_setL, CS.a_setL, CS.q_setL, CS.z_setL, CS.i_setR, CS.l_setR, CS.r_setR, CS.a_setR, CS.q_setR, CS.z_setR, CS.i_setA, CS.l_setA, CS.r_setA, CS.a_setA, CS.q_setA, CS.z_setA, CS.i_setQ, CS.l_setQ, CS.r_setQ, CS.a_setQ, CS.q_setQ, CS.z_setQ, CS.i_setF, CS.l_setF, CS.r_setF, CS.a_setF, CS.q_setF, CS.z_setF, CS.i_new, CS.l_new, CS.r_new, CS.a_new, CS.q_new, CS.z_new, Nat.reduceEqDiff, false_and, true_and, and_false, and_true, if_true, if_false, b2_0, b2_1, b2_nn, n0_or, n1_or, n10, n01, dec1, dec2, ob_ok, oe_l, oe_r, gl_ok, gle_ok, gn_s, gv_ok, gv_none, on_none, onSome,u3, u7, u10, hvw2, hga, hvw4, h103, h102, u15, hz15, hq15]
              · rw [h5]
                unfold m_rcandidate_J162
                rcases (by omega : q = 0 ∨ q = 1 ∨ q = 2 ∨ q = 3 ∨ q = 4) with rfl | rfl | rfl | rfl | rfl
                · simp (disch := omega) only [gd_ok, cl_nI, nI_s, nI_add, nI_leI, nI_ltI, nI_eq, if_pos, if_neg, q0, q1, q2, q3, q4, q5, q6, q7, q8, q9, q10, MS.i_setI, MS.a_setI, MS.n_setI, MS.i_setA, MS.a_setA, MS.n_setA, MS.i_setN, MS.a_setN, MS.n_setN, ↓reduceIte, Nat.reduceEqDiff, b2_0, b2_1, b2_nn, n0_or, n1_or, n10, n01, dec1, dec2, ob_ok, oe_l, oe_r,h46p, hro.2.2.2.1]
                · simp (disch := omega) only [gd_ok, cl_nI, nI_s, nI_add, nI_leI, nI_ltI, nI_eq, if_pos, if_neg, q0, q1, q2, q3, q4, q5, q6, q7, q8, q9, q10, MS.i_setI, MS.a_setI, MS.n_setI, MS.i_setA, MS.a_setA, MS.n_setA, MS.i_setN, MS.a_setN, MS.n_setN, ↓reduceIte, Nat.reduceEqDiff, b2_0, b2_1, b2_nn, n0_or, n1_or, n10, n01, dec1, dec2, ob_ok, oe_l, oe_r,h46p, hro.1]
                · by_cases e : A.act c = 5
                  · simp (disch := omega) only [gd_ok, cl_nI, nI_s, nI_add, nI_leI, nI_ltI, nI_eq, if_pos, if_neg, q0, q1, q2, q3, q4, q5, q6, q7, q8, q9, q10, MS.i_setI, MS.a_setI, MS.n_setI, MS.i_setA, MS.a_setA, MS.n_setA, MS.i_setN, MS.a_setN, MS.n_setN, ↓reduceIte, Nat.reduceEqDiff, b2_0, b2_1, b2_nn, n0_or, n1_or, n10, n01, dec1, dec2, ob_ok, oe_l, oe_r,h46p, hro.2.2.2.1, e, hct]
                  · simp (disch := omega) only [gd_ok, cl_nI, nI_s, nI_add, nI_leI, nI_ltI, nI_eq, if_pos, if_neg, q0, q1, q2, q3, q4, q5, q6, q7, q8, q9, q10, MS.i_setI, MS.a_setI, MS.n_setI, MS.i_setA, MS.a_setA, MS.n_setA, MS.i_setN, MS.a_setN, MS.n_setN, ↓reduceIte, Nat.reduceEqDiff, b2_0, b2_1, b2_nn, n0_or, n1_or, n10, n01, dec1, dec2, ob_ok, oe_l, oe_r,h46p, hro.2.2.2.1, hro.2.2.2.2.2.2.2.2]
                · simp (disch := omega) only [gd_ok, cl_nI, nI_s, nI_add, nI_leI, nI_ltI, nI_eq, if_pos, if_neg, q0, q1, q2, q3, q4, q5, q6, q7, q8, q9, q10, MS.i_setI, MS.a_setI, MS.n_setI, MS.i_setA, MS.a_setA, MS.n_setA, MS.i_setN, MS.a_setN, MS.n_setN, ↓reduceIte, Nat.reduceEqDiff, b2_0, b2_1, b2_nn, n0_or, n1_or, n10, n01, dec1, dec2, ob_ok, oe_l, oe_r,h46p, h17]
                · simp (disch := omega) only [gd_ok, cl_nI, nI_s, nI_add, nI_leI, nI_ltI, nI_eq, if_pos, if_neg, q0, q1, q2, q3, q4, q5, q6, q7, q8, q9, q10, MS.i_setI, MS.a_setI, MS.n_setI, MS.i_setA, MS.a_setA, MS.n_setA, MS.i_setN, MS.a_setN, MS.n_setN, ↓reduceIte, Nat.reduceEqDiff, b2_0, b2_1, b2_nn, n0_or, n1_or, n10, n01, dec1, dec2, ob_ok, oe_l, oe_r,h46p]
      · exact absurd hok h
    · rcases cJ_needPlace G2 hio2 f3 x3 with ⟨h, _⟩ | ⟨_, hnp⟩
      · exact absurd h hok
      · refine rlikeT (t := 1) (k := 1) (C' := C2) (S1 := S1) (v := (nI 0).toInt64) ?_ ?_ rfl hR1 G2 hA hio2 (Nat.le_refl _) (by omega)
        · unfold m_cJT_candidate m_cJT_candidate_J0
          simp only [htc, ob_ok, hsh, oe_l, oe_r, hnp, gl_ok hgl]
        · rcases x5_or x5 with h | ⟨q, hq, h⟩
          · exact hSbad h
          · exact hSpt hq h (by omega) hpt
end CCA
