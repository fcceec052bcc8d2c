/-! THE CALL insert. -/
section CINS
variable {S S' : MS} {N : Nat → Nat} {C C' : CS} {A : AS} {r rd : Nat} {bi bf bs bo : List Nat} {ji jf js a : Nat}
/-- the element before place i: none at the beginning -/
theorem cJ_elBefore (G : RC N C A rd) (hA : AI A) (hv : VC C A r) {x : Option Nat} (hx : ∀ m, x = some m → m < A.n) (hrd : rd + 4000 < 2 ^ 30) (i : Int32) :
    ∃ C', VR A C rd (A.L x).length C' ∧ ((∃ k par, i = nI k ∧ k < 2 ^ 31 ∧ k ≤ (A.fl r x).length ∧ (k = 0 → par = none) ∧ (∀ w, k = w + 1 → ∃ s, (A.fl r x)[w]? = some s ∧ par = some s) ∧ m_cJT_elementBefore N 0 C (ox x) i = some (.inl (C', par.map (· + 1)))) ∨
      ((i < nI 0 ∨ ∃ k, i = nI k ∧ k < 2 ^ 31 ∧ (A.fl r x).length < k) ∧ m_cJT_elementBefore N 0 C (ox x) i = some (.inr (C', 3)))) := by
  obtain ⟨u0, u1, u2, u3, u4, u5, u6, u7, u8, u9, u10, u11, u12, u13, u14, u15, u16, u17, u18⟩ := G.nn
  obtain ⟨s1, s2, s3, s4, s5, s6, s7, s8, s9, s10, s11, s12, s13, s14, s15, s16, s17, s18, s19, s20, s21⟩ := G.st
  have hox := ox_lt hx
  have hnn := hA.1.1
  have hfl : (A.fl r x).length ≤ A.n := Nat.le_trans (List.length_filter_le _ _) (L_len hA)
  unfold m_cJT_elementBefore m_cJT_elementBefore_J0 m_cJT_elementBefore_J25
  by_cases hneg : i < nI 0
  · refine ⟨C, VR.refl G, Or.inr ⟨Or.inl hneg, ?_⟩⟩
    have h0 : ¬ i = nI 0 := by rintro rfl; exact absurd hneg (by decide)
    have h1 : ¬ nI 0 ≤ i := Int32.not_le.mpr hneg
    simp only [q0]
    rw [if_neg h0, if_neg h1]
    simp (disch := omega) only [gd_ok, cl_nI, nI_s, nI_add, nI_leI, nI_ltI, nI_eq, if_pos, if_neg, q0, q1, q2, q3, q4, q5, q6, q7, q8, q9, q10, CS.i_setI, CS.l_setI, CS.r_setI, CS.a_setI, CS.q_setI, CS.z_setI, CS.i_setL, CS.l_setL, CS.r_setL, CS.a_setL, CS.q_setL, CS.z_setL, CS.i_setR, CS.l_setR, CS.r_setR, CS.a_setR, CS.q_setR, CS.z_setR, CS.i_setA, CS.l_setA, CS.r_setA, CS.a_setA, CS.q_setA, CS.z_setA, CS.i_setQ, CS.l_setQ, CS.r_setQ, CS.a_setQ, CS.q_setQ, CS.z_setQ, CS.i_setF, CS.l_setF, CS.r_setF, CS.a_setF, CS.q_setF, CS.z_setF, CS.i_new, CS.l_new, CS.r_new, CS.a_new, CS.q_new, CS.z_new, Nat.reduceEqDiff, false_and, true_and, and_false, and_true, if_true, if_false, b2_0, b2_1, b2_nn, n0_or, n1_or, n10, n01, dec1, dec2, ob_ok, oe_l, oe_r, gl_ok, gle_ok, gn_s, gv_ok, gv_none, on_none, onSome,u11, cJ_needSpot]
  · obtain ⟨k, hk, rfl⟩ := nI_of hneg
    cases k with
    | zero =>
      refine ⟨C, VR.refl G, Or.inl ⟨0, none, rfl, by omega, by omega, fun _ => rfl, fun w h => by omega, ?_⟩⟩
      simp (disch := omega) only [gd_ok, cl_nI, nI_s, nI_add, nI_leI, nI_ltI, nI_eq, if_pos, if_neg, q0, q1, q2, q3, q4, q5, q6, q7, q8, q9, q10, CS.i_setI, CS.l_setI, CS.r_setI, CS.a_setI, CS.q_setI, CS.z_setI, CS.i_setL, CS.l_setL, CS.r_setL, CS.a_setL, CS.q_setL, CS.z_setL, CS.i_setR, CS.l_setR, CS.r_setR, CS.a_setR, CS.q_setR, CS.z_setR, CS.i_setA, CS.l_setA, CS.r_setA, CS.a_setA, CS.q_setA, CS.z_setA, CS.i_setQ, CS.l_setQ, CS.r_setQ, CS.a_setQ, CS.q_setQ, CS.z_setQ, CS.i_setF, CS.l_setF, CS.r_setF, CS.a_setF, CS.q_setF, CS.z_setF, CS.i_new, CS.l_new, CS.r_new, CS.a_new, CS.q_new, CS.z_new, Nat.reduceEqDiff, false_and, true_and, and_false, and_true, if_true, if_false, b2_0, b2_1, b2_nn, n0_or, n1_or, n10, n01, dec1, dec2, ob_ok, oe_l, oe_r, gl_ok, gle_ok, gn_s, gv_ok, gv_none, on_none, onSome]
      rfl
    | succ k =>
      obtain ⟨C3, hV3, hsp⟩ := cV_spotAt G hA hv hx hrd (nI k)
      rcases hsp with ⟨k', s, hke, hk31, hfs, hsp⟩ | ⟨hnos, hsp⟩
      · have hkk : k = k' := (nI_eq (by omega) hk31).mp hke
        subst hkk
        have hkl : k < (A.fl r x).length := by
          rcases Nat.lt_or_ge k (A.fl r x).length with h | h
          · exact h
          · rw [List.getElem?_eq_none h] at hfs; cases hfs
        have hsfl : s ∈ A.fl r x := List.mem_of_getElem? hfs
        unfold AS.fl at hsfl
        rw [List.mem_filter] at hsfl
        have hsL := L_mem hA hsfl.1
        obtain ⟨rd3, r31, r32, G3⟩ := hV3.toRC G
        have hsj := G3.ln.1 s hsL.1 hsL.2.2
        refine ⟨C3, hV3, Or.inl ⟨k + 1, some s, rfl, hk, by omega, fun h => by omega, fun w h => ⟨s, by rw [show w = k by omega]; exact hfs, rfl⟩, ?_⟩⟩
        simp (disch := omega) only [gd_ok, cl_nI, nI_s, nI_add, nI_leI, nI_ltI, nI_eq, if_pos, if_neg, q0, q1, q2, q3, q4, q5, q6, q7, q8, q9, q10, CS.i_setI, CS.l_setI, CS.r_setI, CS.a_setI, CS.q_setI, CS.z_setI, CS.i_setL, CS.l_setL, CS.r_setL, CS.a_setL, CS.q_setL, CS.z_setL, CS.i_setR, CS.l_setR, CS.r_setR, CS.a_setR, CS.q_setR, CS.z_setR, CS.i_setA, CS.l_setA, CS.r_setA, CS.a_setA, CS.q_setA, CS.z_setA, CS.i_setQ, CS.l_setQ, CS.r_setQ, CS.a_setQ, CS.q_setQ, CS.z_setQ, CS.i_setF, CS.l_setF, CS.r_setF, CS.a_setF, CS.q_setF, CS.z_setF, CS.i_new, CS.l_new, CS.r_new, CS.a_new, CS.q_new, CS.z_new, Nat.reduceEqDiff, false_and, true_and, and_false, and_true, if_true, if_false, b2_0, b2_1, b2_nn, n0_or, n1_or, n10, n01, dec1, dec2, ob_ok, oe_l, oe_r, gl_ok, gle_ok, gn_s, gv_ok, gv_none, on_none, onSome,u11, u3, u10, u7, s3, hsp, cJ_needSpot, reduceCtorEq, hsj.2.1, hsj.1]
        rfl
      · refine ⟨C3, hV3, Or.inr ⟨Or.inr ⟨k + 1, rfl, hk, ?_⟩, ?_⟩⟩
        · rcases Nat.lt_or_ge k (A.fl r x).length with h | h
          · exact absurd rfl (hnos k h)
          · omega
        · simp (disch := omega) only [gd_ok, cl_nI, nI_s, nI_add, nI_leI, nI_ltI, nI_eq, if_pos, if_neg, q0, q1, q2, q3, q4, q5, q6, q7, q8, q9, q10, CS.i_setI, CS.l_setI, CS.r_setI, CS.a_setI, CS.q_setI, CS.z_setI, CS.i_setL, CS.l_setL, CS.r_setL, CS.a_setL, CS.q_setL, CS.z_setL, CS.i_setR, CS.l_setR, CS.r_setR, CS.a_setR, CS.q_setR, CS.z_setR, CS.i_setA, CS.l_setA, CS.r_setA, CS.a_setA, CS.q_setA, CS.z_setA, CS.i_setQ, CS.l_setQ, CS.r_setQ, CS.a_setQ, CS.q_setQ, CS.z_setQ, CS.i_setF, CS.l_setF, CS.r_setF, CS.a_setF, CS.q_setF, CS.z_setF, CS.i_new, CS.l_new, CS.r_new, CS.a_new, CS.q_new, CS.z_new, Nat.reduceEqDiff, false_and, true_and, and_false, and_true, if_true, if_false, b2_0, b2_1, b2_nn, n0_or, n1_or, n10, n01, dec1, dec2, ob_ok, oe_l, oe_r, gl_ok, gle_ok, gn_s, gv_ok, gv_none, on_none, onSome,u11, u3, u10, s3, hsp, cJ_needSpot]
set_option maxHeartbeats 4000000 in
theorem call_insert (hI : INV S N C A rd) (hrd : rd + 60000 < 2 ^ 30) (x1 x2 x3 x4 : Int32) (x5 : Int64) : ALIKE [(1, 1), (2, 2), (3, 3), (4, 4)] A rd N (m_cJT_insert N 0 C x1 x2 x3 x4 x5) (m_rinsert S x1 x2 x3 x4 x5) := by
  obtain ⟨hR, G, hA, bi, bf, bs, bo, ji, jf, js, a, hio⟩ := hI
  obtain ⟨u0, u1, u2, u3, u4, u5, u6, u7, u8, u9, u10, u11, u12, u13, u14, u15, u16, u17, u18⟩ := G.nn
  obtain ⟨s1, s2, s3, s4, s5, s6, s7, s8, s9, s10, s11, s12, s13, s14, s15, s16, s17, s18, s19, s20, s21⟩ := G.st
  have hnn := hA.1.1
  have hio0 := hio
  obtain ⟨⟨a1, a2, a3, a4, a5, a6, a7⟩, _, ⟨c1, c2, c3, c4, c5⟩, ⟨d1, d2, d3, d4, d5⟩, _, ⟨f1, f2, f3⟩, _⟩ := hio0
  have htk := pS_taken f1
  have htc := cJ_take u11 f2
  have hR1 : RS (S.setI 7 (nI 0)) A := hR.setI rfl
  have G1 : RC N (C.setI 11 11 0 (nI 0)) A rd := RC_take G
  have hio1 := hio.take
  have e5 : (S.setI 7 (nI 0)).i 5 = nI bf.length := c3
  generalize S.setI 7 (nI 0) = S1 at htk hR1 hio1 e5
  generalize C.setI 11 11 0 (nI 0) = C1 at htc G1 hio1
  unfold m_cJT_insert m_cJT_insert_J0 m_rinsert m_rinsert_J0
  rcases rep_or x1 with hx1 | ⟨r, hr, rfl⟩
  · refine alikeT (t := 1) (k := 1) (C' := C1) (S1 := S1) (v := nI 0) ?_ ?_ rfl hR1 G1 hA hio1 (Nat.le_refl _) (by omega)
    · simp (disch := omega) only [gd_ok, cl_nI, nI_s, nI_add, nI_leI, nI_ltI, nI_eq, if_pos, if_neg, q0, q1, q2, q3, q4, q5, q6, q7, q8, q9, q10, CS.i_setI, CS.l_setI, CS.r_setI, CS.a_setI, CS.q_setI, CS.z_setI, CS.i_setL, CS.l_setL, CS.r_setL, CS.a_setL, CS.q_setL, CS.z_setL, CS.i_setR, CS.l_setR, CS.r_setR, CS.a_setR, CS.q_setR, CS.z_setR, CS.i_setA, CS.l_setA, CS.r_setA, CS.a_setA, CS.q_setA, CS.z_setA, CS.i_setQ, CS.l_setQ, CS.r_setQ, CS.a_setQ, CS.q_setQ, CS.z_setQ, CS.i_setF, CS.l_setF, CS.r_setF, CS.a_setF, CS.q_setF, CS.z_setF, CS.i_new, CS.l_new, CS.r_new, CS.a_new, CS.q_new, CS.z_new, Nat.reduceEqDiff, false_and, true_and, and_false, and_true, if_true, if_false, b2_0, b2_1, b2_nn, n0_or, n1_or, n10, n01, dec1, dec2, ob_ok, oe_l, oe_r, gl_ok, gle_ok, gn_s, gv_ok, gv_none, on_none, onSome,u11, htc, cJ_shownN hx1]
    · unfold m_rinsert_J57
      simp (disch := omega) only [gd_ok, cl_nI, nI_s, nI_add, nI_leI, nI_ltI, nI_eq, if_pos, if_neg, q0, q1, q2, q3, q4, q5, q6, q7, q8, q9, q10, MS.i_setI, MS.a_setI, MS.n_setI, MS.i_setA, MS.a_setA, MS.n_setA, MS.i_setN, MS.a_setN, MS.n_setN, ↓reduceIte, Nat.reduceEqDiff, b2_0, b2_1, b2_nn, n0_or, n1_or, n10, n01, dec1, dec2, ob_ok, oe_l, oe_r,htk, pS_isN hx1, pS_no]
  · obtain ⟨C2, hsh, G2, hv2, hfr2⟩ := cJ_shown G1 hA hr
    have hio2 := hio1.fr frS.refl hfr2
    rcases sort_or x4 with hx4 | ⟨act, hact, rfl⟩
    · refine alikeT (t := 1) (k := 1) (C' := C2) (S1 := S1) (v := nI 0) ?_ ?_ rfl hR1 G2 hA hio2 (Nat.le_refl _) (by omega)
      · simp (disch := omega) only [gd_ok, cl_nI, nI_s, nI_add, nI_leI, nI_ltI, nI_eq, if_pos, if_neg, q0, q1, q2, q3, q4, q5, q6, q7, q8, q9, q10, CS.i_setI, CS.l_setI, CS.r_setI, CS.a_setI, CS.q_setI, CS.z_setI, CS.i_setL, CS.l_setL, CS.r_setL, CS.a_setL, CS.q_setL, CS.z_setL, CS.i_setR, CS.l_setR, CS.r_setR, CS.a_setR, CS.q_setR, CS.z_setR, CS.i_setA, CS.l_setA, CS.r_setA, CS.a_setA, CS.q_setA, CS.z_setA, CS.i_setQ, CS.l_setQ, CS.r_setQ, CS.a_setQ, CS.q_setQ, CS.z_setQ, CS.i_setF, CS.l_setF, CS.r_setF, CS.a_setF, CS.q_setF, CS.z_setF, CS.i_new, CS.l_new, CS.r_new, CS.a_new, CS.q_new, CS.z_new, Nat.reduceEqDiff, false_and, true_and, and_false, and_true, if_true, if_false, b2_0, b2_1, b2_nn, n0_or, n1_or, n10, n01, dec1, dec2, ob_ok, oe_l, oe_r, gl_ok, gle_ok, gn_s, gv_ok, gv_none, on_none, onSome,u11, htc, hsh, cJ_needValueN hx4]
      · unfold m_rinsert_J57
        simp (disch := omega) only [gd_ok, cl_nI, nI_s, nI_add, nI_leI, nI_ltI, nI_eq, if_pos, if_neg, q0, q1, q2, q3, q4, q5, q6, q7, q8, q9, q10, MS.i_setI, MS.a_setI, MS.n_setI, MS.i_setA, MS.a_setA, MS.n_setA, MS.i_setN, MS.a_setN, MS.n_setN, ↓reduceIte, Nat.reduceEqDiff, b2_0, b2_1, b2_nn, n0_or, n1_or, n10, n01, dec1, dec2, ob_ok, oe_l, oe_r,htk, pS_isR hr, pS_no]
        by_cases c : x4 < nI 0
        · rw [if_pos c]
        · rw [if_neg c, if_pos (hx4.resolve_left c)]
    · have hnv := cJ_needValue G2 hio2 hact f3 (show 0 ≤ 1 by omega)
      simp only [Nat.zero_add, if_true] at hnv
      have hS0 : (ob (m_rtaken S) (fun o_1 => ob (m_risReplica o_1.1 (nI r)) (fun o_3 => (if o_3.2 = 0 then m_rinsert_J57 o_3.1 else (if nI act < 0 then m_rinsert_J57 o_3.1 else (if 8 < nI act then m_rinsert_J57 o_3.1 else (if nI act = 4 then m_rinsert_J38 o_3.1 (nI r) x2 x3 (nI act) x5 1 o_1.2 else m_rinsert_J38 o_3.1 (nI r) x2 x3 (nI act) x5 0 o_1.2))))))) = (if act = 4 then (if a = 1 then (if bf.length ≤ 1024 then m_rinsert_J63 S1 (nI r) x2 x3 (nI act) x5 else m_rinsert_J57 S1) else m_rinsert_J57 S1) else (if a = 0 then m_rinsert_J63 S1 (nI r) x2 x3 (nI act) x5 else m_rinsert_J57 S1)) := by
        unfold m_rinsert_J38
        simp (disch := omega) only [gd_ok, cl_nI, nI_s, nI_add, nI_leI, nI_ltI, nI_eq, if_pos, if_neg, q0, q1, q2, q3, q4, q5, q6, q7, q8, q9, q10, MS.i_setI, MS.a_setI, MS.n_setI, MS.i_setA, MS.a_setA, MS.n_setA, MS.i_setN, MS.a_setN, MS.n_setN, ↓reduceIte, Nat.reduceEqDiff, b2_0, b2_1, b2_nn, n0_or, n1_or, n10, n01, dec1, dec2, ob_ok, oe_l, oe_r,htk, pS_isR hr, e5, show (1024 : Int32) = nI 1024 from by decide]
      rw [hS0]
      by_cases hok : a = (if act = 4 then 1 else 0) ∧ (act = 4 → bf.length ≤ 1024)
      · rw [if_pos hok] at hnv
        rw [val0 (S1 := S1) hact f3 hok]
        clear hS0
        unfold m_rinsert_J63
        rcases cJ_listAt G2 hA hv2 x2 with ⟨x, hx, rfl, hkd, hmp⟩ | ⟨x, hx, rfl, hkd, hmp⟩ | ⟨hno, hmp⟩
        · have hkn := kind_x hR1 hA hr hx
          have h68 := kd_le8 hx
          have hxl := oV_ltn hx
          have hox := ox_lt hxl
          have hln := L_len hA (x := x)
          have hfl : (A.fl r x).length ≤ A.n := Nat.le_trans (List.length_filter_le _ _) hln
          obtain ⟨C3, hV3, heb⟩ := cJ_elBefore G2 hA hv2 hxl (by omega) x3
          obtain ⟨rd3, r31, r32, G3⟩ := hV3.toRC G2
          have hv3 := hV3.toVC hv2
          have hio3 := hio2.fr frS.refl hV3.fr
          obtain ⟨S2, hLS, hin⟩ := pS_indices hR1 hA hr hx hkd
          have hR2 := hLS.RS hR1
          have hio4 := hio3.fr hLS.frS frC.refl
          have e5' : S2.i 5 = nI bf.length := by rw [hLS.frS.1 5 (by simp)]; exact e5
          rcases heb with ⟨k, par, rfl, hk31, hkl, hp0, hp1, heb⟩ | ⟨hbad, heb⟩
          · have hna := cJ_needAll G3 hr
            have hllt := lk_lt hR2 hA hr
            have hio5 := hio4
            obtain ⟨_, _, ⟨w1, w2, _, w4, _⟩, _⟩ := hio5
            have e9 : C3.r 11 9 0 = some jf := hio4.1.2.1
            have hjf := w1.1
            by_cases hl : A.lk r = none
            · rw [if_pos hl] at hna
              have hsl := cJ_strLen G3 (act := act) w1 hact
              have hsl8 := stvL (act := act) c5
              have hroom := cJ_needRoom G3 hA (x := 1) (y := (stv act bf).length) (by omega) (by omega)
              have hfull := pS_full hR2 hA (x := 1) (y := (stv act bf).length) (by omega) (by omega)
              have hS2 : ∀ {β : Type} (F : Int32 → β), (if act = 4 then F (nI bf.length) else F (nI 0)) = F (nI (stv act bf).length) := by
                intro β F
                unfold stv
                by_cases h4 : act = 4
                · rw [if_pos h4, if_pos h4]
                · rw [if_neg h4, if_neg h4]; rfl
              by_cases hrm : 4000 < A.n + 1 ∨ 24576 < A.kn + (stv act bf).length
              · rw [if_pos hrm] at hroom
                refine alikeT (t := 4) (k := 4) (C' := C3) (S1 := S2) (v := nI 0) ?_ ?_ rfl hR2 G3 hA hio4 r31 (by omega)
                · simp (disch := omega) only [gd_ok, cl_nI, nI_s, nI_add, nI_leI, nI_ltI, nI_eq, if_pos, if_neg, q0, q1, q2, q3, q4, q5, q6, q7, q8, q9, q10, CS.i_setI, CS.l_setI, CS.r_setI, CS.a_setI, CS.q_setI, CS.z_setI, CS.i_setL, CS.l_setL, CS.r_setL, CS.a_setL, CS.q_setL, CS.z_setL, CS.i_setR, CS.l_setR, CS.r_setR, CS.a_setR, CS.q_setR, CS.z_setR, CS.i_setA, CS.l_setA, CS.r_setA, CS.a_setA, CS.q_setA, CS.z_setA, CS.i_setQ, CS.l_setQ, CS.r_setQ, CS.a_setQ, CS.q_setQ, CS.z_setQ, CS.i_setF, CS.l_setF, CS.r_setF, CS.a_setF, CS.q_setF, CS.z_setF, CS.i_new, CS.l_new, CS.r_new, CS.a_new, CS.q_new, CS.z_new, Nat.reduceEqDiff, false_and, true_and, and_false, and_true, if_true, if_false, b2_0, b2_1, b2_nn, n0_or, n1_or, n10, n01, dec1, dec2, ob_ok, oe_l, oe_r, gl_ok, gle_ok, gn_s, gv_ok, gv_none, on_none, onSome,u11, htc, hsh, hnv, hmp, u3, heb, hna, u4, e9, u5, hsl, hroom]
                · simp (disch := omega) only [gd_ok, cl_nI, nI_s, nI_add, nI_leI, nI_ltI, nI_eq, if_pos, if_neg, q0, q1, q2, q3, q4, q5, q6, q7, q8, q9, q10, MS.i_setI, MS.a_setI, MS.n_setI, MS.i_setA, MS.a_setA, MS.n_setA, MS.i_setN, MS.a_setN, MS.n_setN, ↓reduceIte, Nat.reduceEqDiff, b2_0, b2_1, b2_nn, n0_or, n1_or, n10, n01, dec1, dec2, ob_ok, oe_l, oe_r,hkn, hin, hllt, hl, e5']
                  rw [hS2 (fun t => m_rinsert_J140 S2 (nI r) (nI (A.oi x)) (nI k) (nI act) x5 t (nI 1))]
                  unfold m_rinsert_J140
                  rw [hfull, decide_eq_true hrm]
                  simp (disch := omega) only [gd_ok, cl_nI, nI_s, nI_add, nI_leI, nI_ltI, nI_eq, if_pos, if_neg, q0, q1, q2, q3, q4, q5, q6, q7, q8, q9, q10, MS.i_setI, MS.a_setI, MS.n_setI, MS.i_setA, MS.a_setA, MS.n_setA, MS.i_setN, MS.a_setN, MS.n_setN, ↓reduceIte, Nat.reduceEqDiff, b2_0, b2_1, b2_nn, n0_or, n1_or, n10, n01, dec1, dec2, ob_ok, oe_l, oe_r,pS_no]
                  rw [if_neg (by simp)]
              · rw [if_neg hrm] at hroom
                rw [decide_eq_false hrm] at hfull
                simp only [not_or, Nat.not_lt] at hrm
                have hR3 : RS (S2.setI 0 (nI 0)) A := hR2.setI rfl
                have hpar : ∀ p, par = some p → p ∈ A.L x ∧ A.inV r p = true := by
                  intro p hp
                  cases k with
                  | zero => rw [hp0 rfl] at hp; cases hp
                  | succ k =>
                    obtain ⟨s, h1, h2⟩ := hp1 k rfl
                    rw [h2] at hp
                    rw [← Option.some.inj hp]
                    have hsfl : s ∈ A.fl r x := List.mem_of_getElem? h1
                    unfold AS.fl at hsfl
                    rw [List.mem_filter] at hsfl
                    have hsL := L_mem hA hsfl.1
                    exact ⟨hsfl.1, (cd_inV hA (by rw [hsL.2.1]; exact hkd) (flB_iff.mp hsfl.2)).2⟩
                obtain ⟨N4, C4, Lx, k1, G4, hA4, hv4, hfr4⟩ := cJ_writeBehind (num := x5) (act := act) (x := x) (par := par) G3 hA hv3 hr hl (by omega) (by omega) hx hkd hpar
                -- the reference: where it goes
                have hS3 : ∃ S3, RS S3 A ∧ frS (S2.setI 0 (nI 0)) S3 ∧ S3.i 0 = nI 0 ∧ (if k = 0 then m_rinsert_J184 (S2.setI 0 (nI 0)) (nI r) (nI (A.oi x)) (nI act) x5 (nI 0) else ob (m_rat (S2.setI 0 (nI 0)) (nI r) (nI (A.oi x)) (nI k - nI 1)) (fun o_5 => gd o_5.2 4000 (gd (o_5.1.a 48 o_5.2.toNatClampNeg) 4000 (m_rinsert_J184 o_5.1 (nI r) (nI (A.oi x)) (nI act) x5 (o_5.1.a 8 ((o_5.1.a 48 o_5.2.toNatClampNeg).toNatClampNeg)))))) = m_rinsert_J184 S3 (nI r) (nI (A.oi x)) (nI act) x5 (nI (A.oi par)) := by
                  cases k with
                  | zero =>
                    refine ⟨_, hR3, frS.refl, by rw [MS.i_setI, if_pos rfl], ?_⟩
                    rw [if_pos rfl, hp0 rfl]
                    rfl
                  | succ k =>
                    obtain ⟨s, h1, h2⟩ := hp1 k rfl
                    obtain ⟨S3, hLS3, hat⟩ := pS_at hR3 hA hr hx hkd (nI k)
                    have hkf : k < (A.fl r x).length := by omega
                    rcases hat with ⟨k', s', e, hke, hk31', hfs', hen, hee, hat⟩ | ⟨hnos', hat⟩
                    · have hkk : k = k' := (nI_eq (by omega) hk31').mp hke
                      subst hkk
                      rw [h1] at hfs'
                      obtain rfl : s = s' := Option.some.inj hfs'
                      have hsfl : s ∈ A.fl r x := List.mem_of_getElem? h1
                      unfold AS.fl at hsfl
                      rw [List.mem_filter] at hsfl
                      have hsL := L_mem hA hsfl.1
                      have h48 : S3.a 48 e = nI s := by
                        have h5 := hLS3.get.2.1
                        have h6 : e < (A.el r x).length := by
                          rcases Nat.lt_or_ge e (A.el r x).length with h | h
                          · exact h
                          · rw [List.getElem?_eq_none h] at hee; cases hee
                        rw [h5 e h6]
                        rw [List.getElem?_eq_getElem h6] at hee
                        rw [Option.some.inj hee]
                      have hs8 : S3.a 8 s = nI (A.id s) := ((hLS3.RS hR3).2.1 s hsL.1).1
                      refine ⟨S3, hLS3.RS hR3, hLS3.frS, ?_, ?_⟩
                      · obtain ⟨f, c, g, t, rfl, _⟩ := hLS3
                        rw [MS.i_setA, MS.i_setI, if_neg (by decide), MS.i_setA, MS.i_setA, MS.i_setA, MS.i_setI, if_pos rfl]
                      · rw [if_neg (by omega)]
                        simp (disch := omega) only [gd_ok, cl_nI, nI_s, nI_add, nI_leI, nI_ltI, nI_eq, if_pos, if_neg, q0, q1, q2, q3, q4, q5, q6, q7, q8, q9, q10, MS.i_setI, MS.a_setI, MS.n_setI, MS.i_setA, MS.a_setA, MS.n_setA, MS.i_setN, MS.a_setN, MS.n_setN, ↓reduceIte, Nat.reduceEqDiff, b2_0, b2_1, b2_nn, n0_or, n1_or, n10, n01, dec1, dec2, ob_ok, oe_l, oe_r,hat, h48, hs8, h2]
                        rfl
                    · exact absurd rfl (hnos' k hkf)
                obtain ⟨S3, hR4, hfr3, h30, hS3⟩ := hS3
                have e53 : S3.i 5 = nI bf.length := by rw [hfr3.1 5 (by simp), MS.i_setI, if_neg (by decide)]; exact e5'
                obtain ⟨S6, m1, m2, m3⟩ := pS_insB (num := x5) (act := act) (x := x) (par := par) (v := A.oi par) (s := A.n) (Lx := Lx) (Os := [A.n]) (b' := 2) (p1 := 0) (st := bf) (q := nI bf.length) (p' := nI 0) hR4 hA hr hxl (by omega) (by omega) (by simp) (fun _ => ⟨byts_fr w4 (by rw [hfr3.2 2 (by simp), MS.a_setI]), by omega⟩) (by omega) (fun _ => rfl) (fun _ => rfl)
                generalize hB : A.mk r x act x5 1 par A.n [] [] (A.oi par) Lx [A.n] = B at G4 hA4 hv4 m2
                have hBn : B.n = A.n + 1 := by rw [← hB]; rfl
                have hBm : B.m = A.m := by rw [← hB]; rfl
                have hBa : B.act A.n = act := by rw [← hB, mk_act, if_pos rfl]
                have hBs : B.str A.n = [] := by rw [← hB, mk_str, if_pos rfl]
                have hBk : B.ba A.n + (B.key A.n).length = B.kn := by rw [← hB, mk_ba, mk_key, if_pos rfl, if_pos rfl]; rfl
                have hBkn : B.kn = A.kn := by rw [← hB]; rfl
                have hBi : B.id A.n = 8 * (A.tp r + 1) + r := by rw [← hB, mk_id, if_pos rfl]
                obtain ⟨C5, q1', G5, hfr5⟩ := giveStr G4 hBn hBs hBk (by rw [hBa]; omega) (j := jf) (st := bf) (RW_fr hfr4 (by omega) w1) (RB_fr hfr4 (by omega) w2) (by
                  rw [hBa, hBkn]
                  intro h
                  unfold stv at hrm
                  rw [if_pos h] at hrm
                  omega)
                rw [hBa] at G5
                have hid : C5.i 3 0 (A.n + 1) = nI (8 * (A.tp r + 1) + r) := by
                  have h := (G5.op A.n (show A.n < B.n by omega)).1
                  rw [show (B.gs (stv act bf)).id A.n = B.id A.n from rfl, hBi] at h
                  exact h
                have hid2 : S6.a 8 A.n = nI (8 * (A.tp r + 1) + r) := by
                  have h := (m2.2.1 A.n (show A.n < B.n by omega)).1
                  rw [show (B.gs (stv act bf)).id A.n = B.id A.n from rfl, hBi] at h
                  exact h
                have e9' : C4.r 11 9 0 = some jf := by rw [hfr4.2.1]; exact e9
                obtain ⟨t0, t1, t2, t3, t4, t5, t6, t7, t8, t9, t10, t11, t12, t13, t14, t15, t16, t17, t18⟩ := G4.nn
                rw [hBn] at t3
                have h0 : S6.i 0 = nI 0 := by rw [m3.1 0 (by decide) (by decide) (by decide) (by decide)]; exact h30
                have hfrS : frS S2 S6 := ((frS_setI (k := 0) (v := nI 0) (by decide)).trans hfr3).trans m3.toS
                refine Or.inl ⟨N4, C5, nI (8 * (A.tp r + 1) + r), 2, 18, S6, B.gs (stv act bf), rd3, ?_, ?_, h0, ⟨m2, G5, gs_AI hA4 (by rw [hBkn]; omega), bi, bf, bs, bo, ji, jf, js, 0, (hio4.fr hfrS (hfr4.trans hfr5))⟩, ?_, ?_, by omega, by omega, ?_, ?_⟩
                · simp (disch := omega) only [gd_ok, cl_nI, nI_s, nI_add, nI_leI, nI_ltI, nI_eq, if_pos, if_neg, q0, q1, q2, q3, q4, q5, q6, q7, q8, q9, q10, CS.i_setI, CS.l_setI, CS.r_setI, CS.a_setI, CS.q_setI, CS.z_setI, CS.i_setL, CS.l_setL, CS.r_setL, CS.a_setL, CS.q_setL, CS.z_setL, CS.i_setR, CS.l_setR, CS.r_setR, CS.a_setR, CS.q_setR, CS.z_setR, CS.i_setA, CS.l_setA, CS.r_setA, CS.a_setA, CS.q_setA, CS.z_setA, CS.i_setQ, CS.l_setQ, CS.r_setQ, CS.a_setQ, CS.q_setQ, CS.z_setQ, CS.i_setF, CS.l_setF, CS.r_setF, CS.a_setF, CS.q_setF, CS.z_setF, CS.i_new, CS.l_new, CS.r_new, CS.a_new, CS.q_new, CS.z_new, Nat.reduceEqDiff, false_and, true_and, and_false, and_true, if_true, if_false, b2_0, b2_1, b2_nn, n0_or, n1_or, n10, n01, dec1, dec2, ob_ok, oe_l, oe_r, gl_ok, gle_ok, gn_s, gv_ok, gv_none, on_none, onSome,u11, htc, hsh, hnv, hmp, u3, heb, hna, u4, e9, u5, hsl, hroom, k1, oq_ok, e9', t5, t3, q1', al_ok, hid]
                · simp (disch := omega) only [gd_ok, cl_nI, nI_s, nI_add, nI_leI, nI_ltI, nI_eq, if_pos, if_neg, q0, q1, q2, q3, q4, q5, q6, q7, q8, q9, q10, MS.i_setI, MS.a_setI, MS.n_setI, MS.i_setA, MS.a_setA, MS.n_setA, MS.i_setN, MS.a_setN, MS.n_setN, ↓reduceIte, Nat.reduceEqDiff, b2_0, b2_1, b2_nn, n0_or, n1_or, n10, n01, dec1, dec2, ob_ok, oe_l, oe_r,hkn, hin, hllt, hl, e5']
                  rw [hS2 (fun t => m_rinsert_J140 S2 (nI r) (nI (A.oi x)) (nI k) (nI act) x5 t (nI 1))]
                  unfold m_rinsert_J140
                  rw [hfull]
                  simp (disch := omega) only [gd_ok, cl_nI, nI_s, nI_add, nI_leI, nI_ltI, nI_eq, if_pos, if_neg, q0, q1, q2, q3, q4, q5, q6, q7, q8, q9, q10, MS.i_setI, MS.a_setI, MS.n_setI, MS.i_setA, MS.a_setA, MS.n_setA, MS.i_setN, MS.a_setN, MS.n_setN, ↓reduceIte, Nat.reduceEqDiff, b2_0, b2_1, b2_nn, n0_or, n1_or, n10, n01, dec1, dec2, ob_ok, oe_l, oe_r,hS3]
                  unfold m_rinsert_J184
                  simp (disch := omega) only [gd_ok, cl_nI, nI_s, nI_add, nI_leI, nI_ltI, nI_eq, if_pos, if_neg, q0, q1, q2, q3, q4, q5, q6, q7, q8, q9, q10, MS.i_setI, MS.a_setI, MS.n_setI, MS.i_setA, MS.a_setA, MS.n_setA, MS.i_setN, MS.a_setN, MS.n_setN, ↓reduceIte, Nat.reduceEqDiff, b2_0, b2_1, b2_nn, n0_or, n1_or, n10, n01, dec1, dec2, ob_ok, oe_l, oe_r,e53, m1, hid2]
                · show A.n ≤ B.n
                  omega
                · show A.m ≤ B.m
                  omega
                · show 2 ≤ 2 * (B.n - A.n) + 3 * (B.m - A.m)
                  omega
                · show 18 ≤ 23 * (B.n - A.n) + 40 * (B.m - A.m)
                  omega
            · rw [if_neg hl] at hna
              refine alikeT (t := 2) (k := 2) (C' := C3) (S1 := S2) (v := nI 0) ?_ ?_ rfl hR2 G3 hA hio4 r31 (by omega)
              · simp (disch := omega) only [gd_ok, cl_nI, nI_s, nI_add, nI_leI, nI_ltI, nI_eq, if_pos, if_neg, q0, q1, q2, q3, q4, q5, q6, q7, q8, q9, q10, CS.i_setI, CS.l_setI, CS.r_setI, CS.a_setI, CS.q_setI, CS.z_setI, CS.i_setL, CS.l_setL, CS.r_setL, CS.a_setL, CS.q_setL, CS.z_setL, CS.i_setR, CS.l_setR, CS.r_setR, CS.a_setR, CS.q_setR, CS.z_setR, CS.i_setA, CS.l_setA, CS.r_setA, CS.a_setA, CS.q_setA, CS.z_setA, CS.i_setQ, CS.l_setQ, CS.r_setQ, CS.a_setQ, CS.q_setQ, CS.z_setQ, CS.i_setF, CS.l_setF, CS.r_setF, CS.a_setF, CS.q_setF, CS.z_setF, CS.i_new, CS.l_new, CS.r_new, CS.a_new, CS.q_new, CS.z_new, Nat.reduceEqDiff, false_and, true_and, and_false, and_true, if_true, if_false, b2_0, b2_1, b2_nn, n0_or, n1_or, n10, n01, dec1, dec2, ob_ok, oe_l, oe_r, gl_ok, gle_ok, gn_s, gv_ok, gv_none, on_none, onSome,u11, htc, hsh, hnv, hmp, u3, heb, hna, u4]
              · simp (disch := omega) only [gd_ok, cl_nI, nI_s, nI_add, nI_leI, nI_ltI, nI_eq, if_pos, if_neg, q0, q1, q2, q3, q4, q5, q6, q7, q8, q9, q10, MS.i_setI, MS.a_setI, MS.n_setI, MS.i_setA, MS.a_setA, MS.n_setA, MS.i_setN, MS.a_setN, MS.n_setN, ↓reduceIte, Nat.reduceEqDiff, b2_0, b2_1, b2_nn, n0_or, n1_or, n10, n01, dec1, dec2, ob_ok, oe_l, oe_r,hkn, hin, hllt, hl, pS_no]
          · -- no such place
            by_cases hneg : x3 < nI 0
            · refine alikeT (t := 3) (k := 3) (C' := C3) (S1 := S1) (v := nI 0) ?_ ?_ rfl hR1 G3 hA hio3 r31 (by omega)
              · simp (disch := omega) only [gd_ok, cl_nI, nI_s, nI_add, nI_leI, nI_ltI, nI_eq, if_pos, if_neg, q0, q1, q2, q3, q4, q5, q6, q7, q8, q9, q10, CS.i_setI, CS.l_setI, CS.r_setI, CS.a_setI, CS.q_setI, CS.z_setI, CS.i_setL, CS.l_setL, CS.r_setL, CS.a_setL, CS.q_setL, CS.z_setL, CS.i_setR, CS.l_setR, CS.r_setR, CS.a_setR, CS.q_setR, CS.z_setR, CS.i_setA, CS.l_setA, CS.r_setA, CS.a_setA, CS.q_setA, CS.z_setA, CS.i_setQ, CS.l_setQ, CS.r_setQ, CS.a_setQ, CS.q_setQ, CS.z_setQ, CS.i_setF, CS.l_setF, CS.r_setF, CS.a_setF, CS.q_setF, CS.z_setF, CS.i_new, CS.l_new, CS.r_new, CS.a_new, CS.q_new, CS.z_new, Nat.reduceEqDiff, false_and, true_and, and_false, and_true, if_true, if_false, b2_0, b2_1, b2_nn, n0_or, n1_or, n10, n01, dec1, dec2, ob_ok, oe_l, oe_r, gl_ok, gle_ok, gn_s, gv_ok, gv_none, on_none, onSome,u11, htc, hsh, hnv, hmp, u3, heb]
              · unfold m_rinsert_J103
                simp (disch := omega) only [gd_ok, cl_nI, nI_s, nI_add, nI_leI, nI_ltI, nI_eq, if_pos, if_neg, q0, q1, q2, q3, q4, q5, q6, q7, q8, q9, q10, MS.i_setI, MS.a_setI, MS.n_setI, MS.i_setA, MS.a_setA, MS.n_setA, MS.i_setN, MS.a_setN, MS.n_setN, ↓reduceIte, Nat.reduceEqDiff, b2_0, b2_1, b2_nn, n0_or, n1_or, n10, n01, dec1, dec2, ob_ok, oe_l, oe_r,hkn, pS_no]
            · refine alikeT (t := 3) (k := 3) (C' := C3) (S1 := S2) (v := nI 0) ?_ ?_ rfl hR2 G3 hA hio4 r31 (by omega)
              · simp (disch := omega) only [gd_ok, cl_nI, nI_s, nI_add, nI_leI, nI_ltI, nI_eq, if_pos, if_neg, q0, q1, q2, q3, q4, q5, q6, q7, q8, q9, q10, CS.i_setI, CS.l_setI, CS.r_setI, CS.a_setI, CS.q_setI, CS.z_setI, CS.i_setL, CS.l_setL, CS.r_setL, CS.a_setL, CS.q_setL, CS.z_setL, CS.i_setR, CS.l_setR, CS.r_setR, CS.a_setR, CS.q_setR, CS.z_setR, CS.i_setA, CS.l_setA, CS.r_setA, CS.a_setA, CS.q_setA, CS.z_setA, CS.i_setQ, CS.l_setQ, CS.r_setQ, CS.a_setQ, CS.q_setQ, CS.z_setQ, CS.i_setF, CS.l_setF, CS.r_setF, CS.a_setF, CS.q_setF, CS.z_setF, CS.i_new, CS.l_new, CS.r_new, CS.a_new, CS.q_new, CS.z_new, Nat.reduceEqDiff, false_and, true_and, and_false, and_true, if_true, if_false, b2_0, b2_1, b2_nn, n0_or, n1_or, n10, n01, dec1, dec2, ob_ok, oe_l, oe_r, gl_ok, gle_ok, gn_s, gv_ok, gv_none, on_none, onSome,u11, htc, hsh, hnv, hmp, u3, heb]
              · obtain ⟨k, rfl, hk31, hkl⟩ := hbad.resolve_left hneg
                unfold m_rinsert_J103
                simp (disch := omega) only [gd_ok, cl_nI, nI_s, nI_add, nI_leI, nI_ltI, nI_eq, if_pos, if_neg, q0, q1, q2, q3, q4, q5, q6, q7, q8, q9, q10, MS.i_setI, MS.a_setI, MS.n_setI, MS.i_setA, MS.a_setA, MS.n_setA, MS.i_setN, MS.a_setN, MS.n_setN, ↓reduceIte, Nat.reduceEqDiff, b2_0, b2_1, b2_nn, n0_or, n1_or, n10, n01, dec1, dec2, ob_ok, oe_l, oe_r,hkn, hin, pS_no]
        · have hkn := kind_x hR1 hA hr hx
          refine alikeT (t := 1) (k := 1) (C' := C2) (S1 := S1) (v := nI 0) ?_ ?_ rfl hR1 G2 hA hio2 (Nat.le_refl _) (by omega)
          · simp (disch := omega) only [gd_ok, cl_nI, nI_s, nI_add, nI_leI, nI_ltI, nI_eq, if_pos, if_neg, q0, q1, q2, q3, q4, q5, q6, q7, q8, q9, q10, CS.i_setI, CS.l_setI, CS.r_setI, CS.a_setI, CS.q_setI, CS.z_setI, CS.i_setL, CS.l_setL, CS.r_setL, CS.a_setL, CS.q_setL, CS.z_setL, CS.i_setR, CS.l_setR, CS.r_setR, CS.a_setR, CS.q_setR, CS.z_setR, CS.i_setA, CS.l_setA, CS.r_setA, CS.a_setA, CS.q_setA, CS.z_setA, CS.i_setQ, CS.l_setQ, CS.r_setQ, CS.a_setQ, CS.q_setQ, CS.z_setQ, CS.i_setF, CS.l_setF, CS.r_setF, CS.a_setF, CS.q_setF, CS.z_setF, CS.i_new, CS.l_new, CS.r_new, CS.a_new, CS.q_new, CS.z_new, Nat.reduceEqDiff, false_and, true_and, and_false, and_true, if_true, if_false, b2_0, b2_1, b2_nn, n0_or, n1_or, n10, n01, dec1, dec2, ob_ok, oe_l, oe_r, gl_ok, gle_ok, gn_s, gv_ok, gv_none, on_none, onSome,u11, htc, hsh, hnv, hmp]
          · simp (disch := omega) only [gd_ok, cl_nI, nI_s, nI_add, nI_leI, nI_ltI, nI_eq, if_pos, if_neg, q0, q1, q2, q3, q4, q5, q6, q7, q8, q9, q10, MS.i_setI, MS.a_setI, MS.n_setI, MS.i_setA, MS.a_setA, MS.n_setA, MS.i_setN, MS.a_setN, MS.n_setN, ↓reduceIte, Nat.reduceEqDiff, b2_0, b2_1, b2_nn, n0_or, n1_or, n10, n01, dec1, dec2, ob_ok, oe_l, oe_r,hkn, hkd, pS_no]
        · have hkn := kind_n hR1 hA hr hno
          refine alikeT (t := 3) (k := 3) (C' := C2) (S1 := S1) (v := nI 0) ?_ ?_ rfl hR1 G2 hA hio2 (Nat.le_refl _) (by omega)
          · simp (disch := omega) only [gd_ok, cl_nI, nI_s, nI_add, nI_leI, nI_ltI, nI_eq, if_pos, if_neg, q0, q1, q2, q3, q4, q5, q6, q7, q8, q9, q10, CS.i_setI, CS.l_setI, CS.r_setI, CS.a_setI, CS.q_setI, CS.z_setI, CS.i_setL, CS.l_setL, CS.r_setL, CS.a_setL, CS.q_setL, CS.z_setL, CS.i_setR, CS.l_setR, CS.r_setR, CS.a_setR, CS.q_setR, CS.z_setR, CS.i_setA, CS.l_setA, CS.r_setA, CS.a_setA, CS.q_setA, CS.z_setA, CS.i_setQ, CS.l_setQ, CS.r_setQ, CS.a_setQ, CS.q_setQ, CS.z_setQ, CS.i_setF, CS.l_setF, CS.r_setF, CS.a_setF, CS.q_setF, CS.z_setF, CS.i_new, CS.l_new, CS.r_new, CS.a_new, CS.q_new, CS.z_new, Nat.reduceEqDiff, false_and, true_and, and_false, and_true, if_true, if_false, b2_0, b2_1, b2_nn, n0_or, n1_or, n10, n01, dec1, dec2, ob_ok, oe_l, oe_r, gl_ok, gle_ok, gn_s, gv_ok, gv_none, on_none, onSome,u11, htc, hsh, hnv, hmp]
          · unfold m_rinsert_J103
            simp (disch := omega) only [gd_ok, cl_nI, nI_s, nI_add, nI_leI, nI_ltI, nI_eq, if_pos, if_neg, q0, q1, q2, q3, q4, q5, q6, q7, q8, q9, q10, MS.i_setI, MS.a_setI, MS.n_setI, MS.i_setA, MS.a_setA, MS.n_setA, MS.i_setN, MS.a_setN, MS.n_setN, ↓reduceIte, Nat.reduceEqDiff, b2_0, b2_1, b2_nn, n0_or, n1_or, n10, n01, dec1, dec2, ob_ok, oe_l, oe_r,hkn, pS_no, m1lt', show (-nI 1 = nI 6) ↔ False from by decide]
      · rw [if_neg hok] at hnv
        rw [val1 hok]
        refine alikeT (t := 1) (k := 1) (C' := C2) (S1 := S1) (v := nI 0) ?_ ?_ rfl hR1 G2 hA hio2 (Nat.le_refl _) (by omega)
        · simp (disch := omega) only [gd_ok, cl_nI, nI_s, nI_add, nI_leI, nI_ltI, nI_eq, if_pos, if_neg, q0, q1, q2, q3, q4, q5, q6, q7, q8, q9, q10, CS.i_setI, CS.l_setI, CS.r_setI, CS.a_setI, CS.q_setI, CS.z_setI, CS.i_setL, CS.l_setL, CS.r_setL, CS.a_setL, CS.q_setL, CS.z_setL, CS.i_setR, CS.l_setR, CS.r_setR, CS.a_setR, CS.q_setR, CS.z_setR, CS.i_setA, CS.l_setA, CS.r_setA, CS.a_setA, CS.q_setA, CS.z_setA, CS.i_setQ, CS.l_setQ, CS.r_setQ, CS.a_setQ, CS.q_setQ, CS.z_setQ, CS.i_setF, CS.l_setF, CS.r_setF, CS.a_setF, CS.q_setF, CS.z_setF, CS.i_new, CS.l_new, CS.r_new, CS.a_new, CS.q_new, CS.z_new, Nat.reduceEqDiff, false_and, true_and, and_false, and_true, if_true, if_false, b2_0, b2_1, b2_nn, n0_or, n1_or, n10, n01, dec1, dec2, ob_ok, oe_l, oe_r, gl_ok, gle_ok, gn_s, gv_ok, gv_none, on_none, onSome,u11, htc, hsh, hnv]
        · unfold m_rinsert_J57
          simp (disch := omega) only [gd_ok, cl_nI, nI_s, nI_add, nI_leI, nI_ltI, nI_eq, if_pos, if_neg, q0, q1, q2, q3, q4, q5, q6, q7, q8, q9, q10, MS.i_setI, MS.a_setI, MS.n_setI, MS.i_setA, MS.a_setA, MS.n_setA, MS.i_setN, MS.a_setN, MS.n_setN, ↓reduceIte, Nat.reduceEqDiff, b2_0, b2_1, b2_nn, n0_or, n1_or, n10, n01, dec1, dec2, ob_ok, oe_l, oe_r,pS_no]
end CINS
