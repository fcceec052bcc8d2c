section CSET2
variable {S S' : MS} {N : Nat → Nat} {C C' : CS} {A : AS} {r rd : Nat} {bi bf bs bo : List Nat} {ji jf js a : Nat}
theorem pS_taken (h : S.i 7 = nI a) : m_rtaken S = some (S.setI 7 (nI 0), nI a) := by
  rw [pr_taken, h]
  rfl
theorem pS_isN {x : Int32} (h : x < nI 0 ∨ nI 8 ≤ x) : m_risReplica S x = some (S, nI 0) := pr_isN h
theorem pS_isR (hr : r < 8) : m_risReplica S (nI r) = some (S, nI 1) := pr_isR hr
theorem pS_no {k : Nat} : m_rno S (nI k) = some (S.setI 0 (nI k), nI 0) := rfl
theorem lk_lt (hR : RS S A) (hA : AI A) (hr : r < 8) : (S.a 39 r < nI 0) ↔ A.lk r = none := by
  rw [(hR.2.2.2.2.2.2.2 r hr).1]
  cases hl : A.lk r with
  | none => simp [cI]; decide
  | some c =>
    have := (hA.2.1.2.2.2.2.2.2.2.2.1 r c hl).1
    have := hA.1.2.1
    simp only [cI, reduceCtorEq, iff_false]
    exact nI_pos (by omega)
/-- a number that may stand for a replica -/
theorem rep_or (x : Int32) : (x < nI 0 ∨ nI 8 ≤ x) ∨ ∃ r, r < 8 ∧ x = nI r := by
  rcases pk_ix x (n := 8) (by decide) with h | h | h
  · exact Or.inl (Or.inl h)
  · exact Or.inl (Or.inr h)
  · exact Or.inr h
theorem sort_or (x : Int32) : (x < nI 0 ∨ nI 8 < x) ∨ ∃ k, k ≤ 8 ∧ x = nI k := by
  rcases pk_ix x (n := 9) (by decide) with h | h | ⟨k, h1, h2⟩
  · exact Or.inl (Or.inl h)
  · left; right
    rw [Int32.lt_iff_toInt_lt]
    rw [Int32.le_iff_toInt_le] at h
    have e1 : (nI 9).toInt = 9 := by decide
    have e2 : (nI 8).toInt = 8 := by decide
    omega
  · exact Or.inr ⟨k, by omega, h2⟩
/-- the object that both find is the same -/
theorem kind_x (hR : RS S A) (hA : AI A) (hr : r < 8) {x : Option Nat} (hx : A.oV r x) : m_rkindOf S (nI r) (nI (A.oi x)) = some (S, nI (A.kd x)) := by
  rcases pS_kind hR hA hr (nI (A.oi x)) with ⟨y, h1, h2, h3⟩ | ⟨h1, h2⟩
  · have h4 := (nI_eq (by have := oV_lt hA hx; omega) (by have := oV_lt hA h1; omega)).mp h2
    rw [oi_inj hA hx h1] at h4
    rw [h4] at h3 ⊢
    exact h3
  · exact absurd rfl (h1 x hx)
theorem kind_n (hR : RS S A) (hA : AI A) (hr : r < 8) {i : Int32} (h : ∀ x, A.oV r x → i ≠ nI (A.oi x)) : m_rkindOf S (nI r) i = some (S, -nI 1) := by
  rcases pS_kind hR hA hr i with ⟨y, h1, h2, h3⟩ | ⟨h1, h2⟩
  · exact absurd h2 (h y h1)
  · exact h2
theorem kd_le8 {x : Option Nat} (hx : A.oV r x) : 6 ≤ A.kd x ∧ A.kd x ≤ 8 := by
  cases x with
  | none => simp [AS.kd]
  | some m => exact ⟨hx.2.2.1, hx.2.2.2⟩
set_option maxHeartbeats 2000000 in
theorem call_set (hI : INV S N C A rd) (hrd : rd + 60000 < 2 ^ 30) (x1 x2 x3 : Int32) (x4 : Int64) : ALIKE [(1, 1), (2, 2), (3, 3), (4, 4)] A rd N (m_cJT_set N 0 C x1 x2 x3 x4) (m_rset S x1 x2 x3 x4) := by
  obtain ⟨hR, G, hA, bi, bf, bs, bo, ji, jf, js, a, hio⟩ := hI
  obtain ⟨u0, u1, u2, u3, u4, u5, u6, u7, u8, u9, u10, u11, u12, u13, u14, u15, u16, u17, u18⟩ := G.nn
  obtain ⟨s1, s2, s3, s4, s5, s6, s7, s8, s9, s10, s11, s12, s13, s14, s15, s16, s17, s18, s19, s20, s21⟩ := G.st
  have hio0 := hio
  obtain ⟨⟨a1, a2, a3, a4, a5, a6, a7⟩, _, ⟨c1, c2, c3, c4, c5⟩, ⟨d1, d2, d3, d4, d5⟩, _, ⟨f1, f2, f3⟩, _⟩ := hio0
  have htk := pS_taken f1
  have htc := cJ_take u11 f2
  have hR1 : RS (S.setI 7 (nI 0)) A := hR.setI rfl
  have G1 : RC N (C.setI 11 11 0 (nI 0)) A rd := RC_take G
  have hio1 := hio.take
  have e5 : (S.setI 7 (nI 0)).i 5 = nI bf.length := c3
  have e6 : (S.setI 7 (nI 0)).i 6 = nI bs.length := d3
  generalize S.setI 7 (nI 0) = S1 at htk hR1 hio1 e5 e6
  generalize C.setI 11 11 0 (nI 0) = C1 at htc G1 hio1
  unfold m_cJT_set m_cJT_set_J0 m_rset m_rset_J0
  rcases rep_or x1 with hx1 | ⟨r, hr, rfl⟩
  · refine alikeT (t := 1) (k := 1) (C' := C1) (S1 := S1) (v := nI 0) ?_ ?_ rfl hR1 G1 hA hio1 (Nat.le_refl _) (by omega)
    · simp (disch := omega) only [gd_ok, cl_nI, nI_s, nI_add, nI_leI, nI_ltI, nI_eq, if_pos, if_neg, q0, q1, q2, q3, q4, q5, q6, q7, q8, q9, q10, CS.i_setI, CS.l_setI, CS.r_setI, CS.a_setI, CS.q_setI, CS.z_setI, CS.i_setL, CS.l_setL, CS.r_setL, CS.a_setL, CS.q_setL, CS.z_setL, CS.i_setR, CS.l_setR, CS.r_setR, CS.a_setR, CS.q_setR, CS.z_setR, CS.i_setA, CS.l_setA, CS.r_setA, CS.a_setA, CS.q_setA, CS.z_setA, CS.i_setQ, CS.l_setQ, CS.r_setQ, CS.a_setQ, CS.q_setQ, CS.z_setQ, CS.i_setF, CS.l_setF, CS.r_setF, CS.a_setF, CS.q_setF, CS.z_setF, CS.i_new, CS.l_new, CS.r_new, CS.a_new, CS.q_new, CS.z_new, Nat.reduceEqDiff, false_and, true_and, and_false, and_true, if_true, if_false, b2_0, b2_1, b2_nn, n0_or, n1_or, n10, n01, dec1, dec2, ob_ok, oe_l, oe_r, gl_ok, gle_ok, gn_s, gv_ok, gv_none, on_none, onSome,u11, htc, cJ_shownN hx1]
    · unfold m_rset_J63
      simp (disch := omega) only [gd_ok, cl_nI, nI_s, nI_add, nI_leI, nI_ltI, nI_eq, if_pos, if_neg, q0, q1, q2, q3, q4, q5, q6, q7, q8, q9, q10, MS.i_setI, MS.a_setI, MS.n_setI, MS.i_setA, MS.a_setA, MS.n_setA, MS.i_setN, MS.a_setN, MS.n_setN, ↓reduceIte, Nat.reduceEqDiff, b2_0, b2_1, b2_nn, n0_or, n1_or, n10, n01, dec1, dec2, ob_ok, oe_l, oe_r,htk, pS_isN hx1, pS_no]
  · obtain ⟨C2, hsh, G2, hv2, hfr2⟩ := cJ_shown G1 hA hr
    have hio2 := hio1.fr frS.refl hfr2
    rcases sort_or x3 with hx3 | ⟨act, hact, rfl⟩
    · refine alikeT (t := 1) (k := 1) (C' := C2) (S1 := S1) (v := nI 0) ?_ ?_ rfl hR1 G2 hA hio2 (Nat.le_refl _) (by omega)
      · simp (disch := omega) only [gd_ok, cl_nI, nI_s, nI_add, nI_leI, nI_ltI, nI_eq, if_pos, if_neg, q0, q1, q2, q3, q4, q5, q6, q7, q8, q9, q10, CS.i_setI, CS.l_setI, CS.r_setI, CS.a_setI, CS.q_setI, CS.z_setI, CS.i_setL, CS.l_setL, CS.r_setL, CS.a_setL, CS.q_setL, CS.z_setL, CS.i_setR, CS.l_setR, CS.r_setR, CS.a_setR, CS.q_setR, CS.z_setR, CS.i_setA, CS.l_setA, CS.r_setA, CS.a_setA, CS.q_setA, CS.z_setA, CS.i_setQ, CS.l_setQ, CS.r_setQ, CS.a_setQ, CS.q_setQ, CS.z_setQ, CS.i_setF, CS.l_setF, CS.r_setF, CS.a_setF, CS.q_setF, CS.z_setF, CS.i_new, CS.l_new, CS.r_new, CS.a_new, CS.q_new, CS.z_new, Nat.reduceEqDiff, false_and, true_and, and_false, and_true, if_true, if_false, b2_0, b2_1, b2_nn, n0_or, n1_or, n10, n01, dec1, dec2, ob_ok, oe_l, oe_r, gl_ok, gle_ok, gn_s, gv_ok, gv_none, on_none, onSome,u11, htc, hsh, cJ_needValueN hx3]
      · have h4 : ¬ x3 = nI 4 := by
          rintro rfl
          rcases hx3 with h | h <;> exact absurd h (by decide)
        unfold m_rset_J63
        simp (disch := omega) only [gd_ok, cl_nI, nI_s, nI_add, nI_leI, nI_ltI, nI_eq, if_pos, if_neg, q0, q1, q2, q3, q4, q5, q6, q7, q8, q9, q10, MS.i_setI, MS.a_setI, MS.n_setI, MS.i_setA, MS.a_setA, MS.n_setA, MS.i_setN, MS.a_setN, MS.n_setN, ↓reduceIte, Nat.reduceEqDiff, b2_0, b2_1, b2_nn, n0_or, n1_or, n10, n01, dec1, dec2, ob_ok, oe_l, oe_r,htk, pS_isR hr, pS_no]
        by_cases c : x3 < nI 0
        · rw [if_pos c]
        · rw [if_neg c, if_pos (hx3.resolve_left c)]
    · have hnv := cJ_needValue G2 hio2 hact f3 (show 1 ≤ 1 by omega)
      have hnk := cJ_needKey G2 hio2
      have hik := pS_isKey (S := S1) (k := bf.length) (by omega)
      by_cases hok : (a = 1 + (if act = 4 then 1 else 0) ∧ (act = 4 → bs.length ≤ 1024)) ∧ (1 ≤ bf.length ∧ bf.length ≤ 64)
      · rw [if_pos (by simpa using hok.1)] at hnv
        rw [if_pos hok.2] at hnk
        have hS0 : (ob (m_rtaken S) (fun o_1 => ob (m_risReplica o_1.1 (nI r)) (fun o_3 => (if o_3.2 = 0 then m_rset_J63 o_3.1 else (if nI act < 0 then m_rset_J63 o_3.1 else (if 8 < nI act then m_rset_J63 o_3.1 else (if nI act = 4 then m_rset_J35 o_3.1 (nI r) x2 (nI act) x4 2 o_1.2 else m_rset_J35 o_3.1 (nI r) x2 (nI act) x4 1 o_1.2))))))) = m_rset_J69 S1 (nI r) x2 (nI act) x4 := by
          have h1 := hok.1.1
          have h2 := hok.1.2
          unfold m_rset_J35
          simp (disch := omega) only [gd_ok, cl_nI, nI_s, nI_add, nI_leI, nI_ltI, nI_eq, if_pos, if_neg, q0, q1, q2, q3, q4, q5, q6, q7, q8, q9, q10, MS.i_setI, MS.a_setI, MS.n_setI, MS.i_setA, MS.a_setA, MS.n_setA, MS.i_setN, MS.a_setN, MS.n_setN, ↓reduceIte, Nat.reduceEqDiff, b2_0, b2_1, b2_nn, n0_or, n1_or, n10, n01, dec1, dec2, ob_ok, oe_l, oe_r,htk, pS_isR hr, e5, e6, hik, show (1024 : Int32) = nI 1024 from by decide]
          rw [decide_eq_true hok.2]
          by_cases h4 : act = 4
          · rw [if_pos h4] at h1
            simp only [h4, if_true, Bool.true_eq_false, if_false]
            rw [if_pos (by omega)]
          · rw [if_neg h4] at h1
            simp only [h4, Bool.true_eq_false, if_false]
            rw [if_pos (by omega)]
        rw [hS0]
        have hst2 : act = 4 → bs.length ≤ 1024 := hok.1.2
        have hst3 : act = 4 → a = 2 := fun h => by have := hok.1.1; rw [if_pos h] at this; omega
        clear hS0 hik
        unfold m_rset_J69
        rcases cJ_mapAt G2 hA hv2 x2 with ⟨x, hx, rfl, hkd, hmp⟩ | ⟨x, hx, rfl, hkd, hmp⟩ | ⟨hno, hmp⟩
        · have hkn := kind_x hR1 hA hr hx
          have hna := cJ_needAll G2 hr
          have hllt := lk_lt hR1 hA hr
          have hxl := oV_ltn hx
          have hox := ox_lt hxl
          have hio3 := hio2
          obtain ⟨_, _, ⟨w1, w2, _, _, _⟩, ⟨y1, y2, _, _, _⟩, _⟩ := hio3
          have e9 : C2.r 11 9 0 = some jf := hio2.1.2.1
          have e10 : C2.r 11 10 0 = some js := hio2.1.2.2.1
          have hjf := w1.1
          have hjs := y1.1
          by_cases hl : A.lk r = none
          · rw [if_pos hl] at hna
            have hsl : m_cJT_stringLength N C2 (nI act) js = some (C2, nI (stv act bs).length) := by
              unfold m_cJT_stringLength m_cJT_stringLength_J0 m_cJT_stringLength_J13 stv
              simp (disch := omega) only [gd_ok, cl_nI, nI_s, nI_add, nI_leI, nI_ltI, nI_eq, if_pos, if_neg, q0, q1, q2, q3, q4, q5, q6, q7, q8, q9, q10, CS.i_setI, CS.l_setI, CS.r_setI, CS.a_setI, CS.q_setI, CS.z_setI, CS.i_setL, CS.l_setL, CS.r_setL, CS.a_setL, CS.q_setL, CS.z_setL, CS.i_setR, CS.l_setR, CS.r_setR, CS.a_setR, CS.q_setR, CS.z_setR, CS.i_setA, CS.l_setA, CS.r_setA, CS.a_setA, CS.q_setA, CS.z_setA, CS.i_setQ, CS.l_setQ, CS.r_setQ, CS.a_setQ, CS.q_setQ, CS.z_setQ, CS.i_setF, CS.l_setF, CS.r_setF, CS.a_setF, CS.q_setF, CS.z_setF, CS.i_new, CS.l_new, CS.r_new, CS.a_new, CS.q_new, CS.z_new, Nat.reduceEqDiff, false_and, true_and, and_false, and_true, if_true, if_false, b2_0, b2_1, b2_nn, n0_or, n1_or, n10, n01, dec1, dec2, ob_ok, oe_l, oe_r, gl_ok, gle_ok, gn_s, gv_ok, gv_none, on_none, onSome,u5, y1.2.2.1]
              by_cases h4 : act = 4
              · rw [if_pos h4, if_pos h4]
              · rw [if_neg h4, if_neg h4]; rfl
            have hsl8 : (stv act bs).length ≤ 8192 := by
              unfold stv
              split
              · exact d5
              · simp
            have hroom := cJ_needRoom G2 hA (x := 1) (y := bf.length + (stv act bs).length) (by omega) (by omega)
            have hfull := pS_full hR1 hA (x := 1) (y := bf.length + (stv act bs).length) (by omega) (by omega)
            have hSf : m_rset_J142 S1 (nI r) (nI (A.oi x)) (nI act) x4 (if act = 4 then nI bs.length else nI 0) (nI bf.length) (nI 1) = ob (m_rfull S1 (nI 1) (nI (bf.length + (stv act bs).length))) (fun o_1 => (if o_1.2 = nI 0 then ob (m_rsetKey (o_1.1.setI 0 (nI 0)) (nI r) (nI (A.oi x)) 2 (nI 0) (o_1.1.i 5) (nI act) x4 3 (nI 0) (o_1.1.i 6)) (fun o_4 => gd o_4.2 4000 (some (o_4.1, o_4.1.a 8 o_4.2.toNatClampNeg))) else ob (m_rno o_1.1 (nI 4)) (fun o_7 => some (o_7.1, o_7.2)))) := by
              unfold m_rset_J142 stv
              by_cases h4 : act = 4
              · rw [if_pos h4, if_pos h4, nI_add]; rfl
              · rw [if_neg h4, if_neg h4, nI_add]; rfl
            have hS2 : (ob (m_rkindOf S1 (nI r) (nI (A.oi x))) (fun o_1 => (if o_1.2 = 7 then m_rset_J91 o_1.1 else (if o_1.2 = 8 then m_rset_J91 o_1.1 else (if 0 ≤ o_1.2 then gd (nI r) 8 ((if o_1.1.a 39 (nI r).toNatClampNeg < 0 then (if nI act = 4 then m_rset_J142 o_1.1 (nI r) (nI (A.oi x)) (nI act) x4 (o_1.1.i 6) (o_1.1.i 5) 1 else m_rset_J142 o_1.1 (nI r) (nI (A.oi x)) (nI act) x4 0 (o_1.1.i 5) 1) else ob (m_rno o_1.1 2) (fun o_9 => some (o_9.1, o_9.2)))) else ob (m_rno o_1.1 3) (fun o_11 => some (o_11.1, o_11.2))))))) = m_rset_J142 S1 (nI r) (nI (A.oi x)) (nI act) x4 (if act = 4 then nI bs.length else nI 0) (nI bf.length) (nI 1) := by
              simp (disch := omega) only [gd_ok, cl_nI, nI_s, nI_add, nI_leI, nI_ltI, nI_eq, if_pos, if_neg, q0, q1, q2, q3, q4, q5, q6, q7, q8, q9, q10, MS.i_setI, MS.a_setI, MS.n_setI, MS.i_setA, MS.a_setA, MS.n_setA, MS.i_setN, MS.a_setN, MS.n_setN, ↓reduceIte, Nat.reduceEqDiff, b2_0, b2_1, b2_nn, n0_or, n1_or, n10, n01, dec1, dec2, ob_ok, oe_l, oe_r,hkn, hkd, e5, e6, hllt, hl]
              by_cases h4 : act = 4
              · rw [if_pos h4, if_pos h4]
              · rw [if_neg h4, if_neg h4]
            rw [hS2, hSf, hfull]
            by_cases hrm : 4000 < A.n + 1 ∨ 24576 < A.kn + (bf.length + (stv act bs).length)
            · rw [if_pos hrm] at hroom
              refine alikeT (t := 4) (k := 4) (C' := C2) (S1 := S1) (v := nI 0) ?_ ?_ rfl hR1 G2 hA hio2 (Nat.le_refl _) (by omega)
              · simp (disch := omega) only [gd_ok, cl_nI, nI_s, nI_add, nI_leI, nI_ltI, nI_eq, if_pos, if_neg, q0, q1, q2, q3, q4, q5, q6, q7, q8, q9, q10, CS.i_setI, CS.l_setI, CS.r_setI, CS.a_setI, CS.q_setI, CS.z_setI, CS.i_setL, CS.l_setL, CS.r_setL, CS.a_setL, CS.q_setL, CS.z_setL, CS.i_setR, CS.l_setR, CS.r_setR, CS.a_setR, CS.q_setR, CS.z_setR, CS.i_setA, CS.l_setA, CS.r_setA, CS.a_setA, CS.q_setA, CS.z_setA, CS.i_setQ, CS.l_setQ, CS.r_setQ, CS.a_setQ, CS.q_setQ, CS.z_setQ, CS.i_setF, CS.l_setF, CS.r_setF, CS.a_setF, CS.q_setF, CS.z_setF, CS.i_new, CS.l_new, CS.r_new, CS.a_new, CS.q_new, CS.z_new, Nat.reduceEqDiff, false_and, true_and, and_false, and_true, if_true, if_false, b2_0, b2_1, b2_nn, n0_or, n1_or, n10, n01, dec1, dec2, ob_ok, oe_l, oe_r, gl_ok, gle_ok, gn_s, gv_ok, gv_none, on_none, onSome,u11, htc, hsh, hnv, hnk, hmp, hna, u4, e9, e10, u5, hsl, w1.2.2.1, hroom]
              · rw [decide_eq_true hrm]
                simp (disch := omega) only [gd_ok, cl_nI, nI_s, nI_add, nI_leI, nI_ltI, nI_eq, if_pos, if_neg, q0, q1, q2, q3, q4, q5, q6, q7, q8, q9, q10, MS.i_setI, MS.a_setI, MS.n_setI, MS.i_setA, MS.a_setA, MS.n_setA, MS.i_setN, MS.a_setN, MS.n_setN, ↓reduceIte, Nat.reduceEqDiff, b2_0, b2_1, b2_nn, n0_or, n1_or, n10, n01, dec1, dec2, ob_ok, oe_l, oe_r,pS_no]
                rw [if_neg (by simp)]
            · rw [if_neg hrm] at hroom
              rw [decide_eq_false hrm]
              simp only [not_or, Nat.not_lt] at hrm
              have hR2 : RS (S1.setI 0 (nI 0)) A := hR1.setI rfl
              obtain ⟨N3, C3, c, z, rd3, s, Lx, Os, k1, k2, k3, k4, k5, G3, hA3, hv3, hfr3⟩ := cJ_writeAtKey (num := x4) G2 hA hv2 hr hl (by omega) (by omega) hx hkd (j := jf) (p := 0) (k := bf) (by omega) w1 w2 (by omega) hok.2.1 hok.2.2 (by omega) (by omega : act ≤ 9)
              obtain ⟨S3, m1, m2, m3⟩ := pS_setKey (s := s) (Lx := Lx) (Os := Os) (num := x4) (act := act) (k := bf) (b := 2) (p := 0) (b' := 3) (p1 := 0) (st := bs) (q := nI bs.length) (p' := nI 0) hR2 hA hr hx hkd (by simp) (byts_fr (S := S1) hio1.2.2.1.2.2.2.1 (by rw [MS.a_setI])) (by omega) (by intro h; rw [h] at hok; simp at hok) (by omega) (by omega) (by simp) (fun _ => ⟨byts_fr (S := S1) hio1.2.2.2.1.2.2.2.1 (by rw [MS.a_setI]), by omega⟩) (by omega) (fun _ => rfl) (fun _ => rfl)
              have hn3 : (A.mk r x act x4 0 none s bf (A.kc r x bf).reverse 0 Lx Os).n = A.n + 1 := rfl
              have ha3 : (A.mk r x act x4 0 none s bf (A.kc r x bf).reverse 0 Lx Os).act A.n = act := by rw [mk_act, if_pos rfl]
              obtain ⟨C4, q1', G4, hfr4⟩ := giveStr G3 hn3 (by rw [mk_str, if_pos rfl]) (by rw [mk_ba, mk_key, if_pos rfl, if_pos rfl]; rfl) (by rw [ha3]; omega) (j := js) (st := bs) (RW_fr hfr3 (by omega) y1) (RB_fr hfr3 (by omega) y2) (by
                rw [ha3, mk_kn]
                intro h
                unfold stv at hrm
                rw [if_pos h] at hrm
                omega)
              rw [ha3] at G4
              have hid : C4.i 3 0 (A.n + 1) = nI (8 * (A.tp r + 1) + r) := by
                have h := (G4.op A.n (show A.n < A.n + 1 by omega)).1
                have e : ((A.mk r x act x4 0 none s bf (A.kc r x bf).reverse 0 Lx Os).gs (stv act bs)).id A.n = (A.mk r x act x4 0 none s bf (A.kc r x bf).reverse 0 Lx Os).id A.n := rfl
                rw [e, mk_id, if_pos rfl] at h
                exact h
              have hid2 : S3.a 8 A.n = nI (8 * (A.tp r + 1) + r) := by
                have h := (m2.2.1 A.n (show A.n < A.n + 1 by omega)).1
                have e : ((A.mk r x act x4 0 none s bf (A.kc r x bf).reverse 0 Lx Os).gs (stv act bs)).id A.n = (A.mk r x act x4 0 none s bf (A.kc r x bf).reverse 0 Lx Os).id A.n := rfl
                rw [e, mk_id, if_pos rfl] at h
                exact h
              have e10' : C3.r 11 10 0 = some js := by rw [hfr3.2.1]; exact e10
              obtain ⟨t0, t1, t2, t3, t4, t5, t6, t7, t8, t9, t10, t11, t12, t13, t14, t15, t16, t17, t18⟩ := G3.nn
              rw [hn3] at t3
              refine Or.inl ⟨N3, C4, nI (8 * (A.tp r + 1) + r), c, z, S3, (A.mk r x act x4 0 none s bf (A.kc r x bf).reverse 0 Lx Os).gs (stv act bs), rd3, ?_, ?_, ?_, ⟨m2, G4, gs_AI hA3 (by rw [mk_kn]; omega), bi, bf, bs, bo, ji, jf, js, 0, ?_⟩, ?_, ?_, k4, by omega, ?_, ?_⟩
              · simp (disch := omega) only [gd_ok, cl_nI, nI_s, nI_add, nI_leI, nI_ltI, nI_eq, if_pos, if_neg, q0, q1, q2, q3, q4, q5, q6, q7, q8, q9, q10, CS.i_setI, CS.l_setI, CS.r_setI, CS.a_setI, CS.q_setI, CS.z_setI, CS.i_setL, CS.l_setL, CS.r_setL, CS.a_setL, CS.q_setL, CS.z_setL, CS.i_setR, CS.l_setR, CS.r_setR, CS.a_setR, CS.q_setR, CS.z_setR, CS.i_setA, CS.l_setA, CS.r_setA, CS.a_setA, CS.q_setA, CS.z_setA, CS.i_setQ, CS.l_setQ, CS.r_setQ, CS.a_setQ, CS.q_setQ, CS.z_setQ, CS.i_setF, CS.l_setF, CS.r_setF, CS.a_setF, CS.q_setF, CS.z_setF, CS.i_new, CS.l_new, CS.r_new, CS.a_new, CS.q_new, CS.z_new, Nat.reduceEqDiff, false_and, true_and, and_false, and_true, if_true, if_false, b2_0, b2_1, b2_nn, n0_or, n1_or, n10, n01, dec1, dec2, ob_ok, oe_l, oe_r, gl_ok, gle_ok, gn_s, gv_ok, gv_none, on_none, onSome,u11, htc, hsh, hnv, hnk, hmp, hna, u4, e9, e10, u5, u3, hsl, w1.2.2.1, hroom, k1, oq_ok, e10', t5, t3, q1', al_ok, hid]
                rw [Nat.zero_add, Nat.zero_add]
              · simp (disch := omega) only [gd_ok, cl_nI, nI_s, nI_add, nI_leI, nI_ltI, nI_eq, if_pos, if_neg, q0, q1, q2, q3, q4, q5, q6, q7, q8, q9, q10, MS.i_setI, MS.a_setI, MS.n_setI, MS.i_setA, MS.a_setA, MS.n_setA, MS.i_setN, MS.a_setN, MS.n_setN, ↓reduceIte, Nat.reduceEqDiff, b2_0, b2_1, b2_nn, n0_or, n1_or, n10, n01, dec1, dec2, ob_ok, oe_l, oe_r,e5, e6, m1, hid2]
              · rw [m3.1 0 (by decide) (by decide) (by decide) (by decide), MS.i_setI, if_pos rfl]
              · exact (hio2.fr (frS_setI (k := 0) (v := nI 0) (by decide)) (hfr3.trans hfr4)).fr m3.toS frC.refl
              · show A.n ≤ A.n + 1
                omega
              · exact Nat.le_refl _
              · show c ≤ 2 * (A.n + 1 - A.n) + 3 * (A.m - A.m)
                omega
              · show z ≤ 23 * (A.n + 1 - A.n) + 40 * (A.m - A.m)
                omega
          · rw [if_neg hl] at hna
            refine alikeT (t := 2) (k := 2) (C' := C2) (S1 := S1) (v := nI 0) ?_ ?_ rfl hR1 G2 hA hio2 (Nat.le_refl _) (by omega)
            · simp (disch := omega) only [gd_ok, cl_nI, nI_s, nI_add, nI_leI, nI_ltI, nI_eq, if_pos, if_neg, q0, q1, q2, q3, q4, q5, q6, q7, q8, q9, q10, CS.i_setI, CS.l_setI, CS.r_setI, CS.a_setI, CS.q_setI, CS.z_setI, CS.i_setL, CS.l_setL, CS.r_setL, CS.a_setL, CS.q_setL, CS.z_setL, CS.i_setR, CS.l_setR, CS.r_setR, CS.a_setR, CS.q_setR, CS.z_setR, CS.i_setA, CS.l_setA, CS.r_setA, CS.a_setA, CS.q_setA, CS.z_setA, CS.i_setQ, CS.l_setQ, CS.r_setQ, CS.a_setQ, CS.q_setQ, CS.z_setQ, CS.i_setF, CS.l_setF, CS.r_setF, CS.a_setF, CS.q_setF, CS.z_setF, CS.i_new, CS.l_new, CS.r_new, CS.a_new, CS.q_new, CS.z_new, Nat.reduceEqDiff, false_and, true_and, and_false, and_true, if_true, if_false, b2_0, b2_1, b2_nn, n0_or, n1_or, n10, n01, dec1, dec2, ob_ok, oe_l, oe_r, gl_ok, gle_ok, gn_s, gv_ok, gv_none, on_none, onSome,u11, htc, hsh, hnv, hnk, hmp, hna, u4]
            · simp (disch := omega) only [gd_ok, cl_nI, nI_s, nI_add, nI_leI, nI_ltI, nI_eq, if_pos, if_neg, q0, q1, q2, q3, q4, q5, q6, q7, q8, q9, q10, MS.i_setI, MS.a_setI, MS.n_setI, MS.i_setA, MS.a_setA, MS.n_setA, MS.i_setN, MS.a_setN, MS.n_setN, ↓reduceIte, Nat.reduceEqDiff, b2_0, b2_1, b2_nn, n0_or, n1_or, n10, n01, dec1, dec2, ob_ok, oe_l, oe_r,hkn, hkd, hllt, hl, pS_no]
        · have hkn := kind_x hR1 hA hr hx
          have h68 := kd_le8 hx
          refine alikeT (t := 1) (k := 1) (C' := C2) (S1 := S1) (v := nI 0) ?_ ?_ rfl hR1 G2 hA hio2 (Nat.le_refl _) (by omega)
          · simp (disch := omega) only [gd_ok, cl_nI, nI_s, nI_add, nI_leI, nI_ltI, nI_eq, if_pos, if_neg, q0, q1, q2, q3, q4, q5, q6, q7, q8, q9, q10, CS.i_setI, CS.l_setI, CS.r_setI, CS.a_setI, CS.q_setI, CS.z_setI, CS.i_setL, CS.l_setL, CS.r_setL, CS.a_setL, CS.q_setL, CS.z_setL, CS.i_setR, CS.l_setR, CS.r_setR, CS.a_setR, CS.q_setR, CS.z_setR, CS.i_setA, CS.l_setA, CS.r_setA, CS.a_setA, CS.q_setA, CS.z_setA, CS.i_setQ, CS.l_setQ, CS.r_setQ, CS.a_setQ, CS.q_setQ, CS.z_setQ, CS.i_setF, CS.l_setF, CS.r_setF, CS.a_setF, CS.q_setF, CS.z_setF, CS.i_new, CS.l_new, CS.r_new, CS.a_new, CS.q_new, CS.z_new, Nat.reduceEqDiff, false_and, true_and, and_false, and_true, if_true, if_false, b2_0, b2_1, b2_nn, n0_or, n1_or, n10, n01, dec1, dec2, ob_ok, oe_l, oe_r, gl_ok, gle_ok, gn_s, gv_ok, gv_none, on_none, onSome,u11, htc, hsh, hnv, hnk, hmp]
          · unfold m_rset_J91
            simp (disch := omega) only [gd_ok, cl_nI, nI_s, nI_add, nI_leI, nI_ltI, nI_eq, if_pos, if_neg, q0, q1, q2, q3, q4, q5, q6, q7, q8, q9, q10, MS.i_setI, MS.a_setI, MS.n_setI, MS.i_setA, MS.a_setA, MS.n_setA, MS.i_setN, MS.a_setN, MS.n_setN, ↓reduceIte, Nat.reduceEqDiff, b2_0, b2_1, b2_nn, n0_or, n1_or, n10, n01, dec1, dec2, ob_ok, oe_l, oe_r,hkn, pS_no]
            by_cases h7 : A.kd x = 7
            · rw [if_pos h7]
            · rw [if_neg h7]
        · have hkn := kind_n hR1 hA hr hno
          refine alikeT (t := 3) (k := 3) (C' := C2) (S1 := S1) (v := nI 0) ?_ ?_ rfl hR1 G2 hA hio2 (Nat.le_refl _) (by omega)
          · simp (disch := omega) only [gd_ok, cl_nI, nI_s, nI_add, nI_leI, nI_ltI, nI_eq, if_pos, if_neg, q0, q1, q2, q3, q4, q5, q6, q7, q8, q9, q10, CS.i_setI, CS.l_setI, CS.r_setI, CS.a_setI, CS.q_setI, CS.z_setI, CS.i_setL, CS.l_setL, CS.r_setL, CS.a_setL, CS.q_setL, CS.z_setL, CS.i_setR, CS.l_setR, CS.r_setR, CS.a_setR, CS.q_setR, CS.z_setR, CS.i_setA, CS.l_setA, CS.r_setA, CS.a_setA, CS.q_setA, CS.z_setA, CS.i_setQ, CS.l_setQ, CS.r_setQ, CS.a_setQ, CS.q_setQ, CS.z_setQ, CS.i_setF, CS.l_setF, CS.r_setF, CS.a_setF, CS.q_setF, CS.z_setF, CS.i_new, CS.l_new, CS.r_new, CS.a_new, CS.q_new, CS.z_new, Nat.reduceEqDiff, false_and, true_and, and_false, and_true, if_true, if_false, b2_0, b2_1, b2_nn, n0_or, n1_or, n10, n01, dec1, dec2, ob_ok, oe_l, oe_r, gl_ok, gle_ok, gn_s, gv_ok, gv_none, on_none, onSome,u11, htc, hsh, hnv, hnk, hmp]
          · simp (disch := omega) only [gd_ok, cl_nI, nI_s, nI_add, nI_leI, nI_ltI, nI_eq, if_pos, if_neg, q0, q1, q2, q3, q4, q5, q6, q7, q8, q9, q10, MS.i_setI, MS.a_setI, MS.n_setI, MS.i_setA, MS.a_setA, MS.n_setA, MS.i_setN, MS.a_setN, MS.n_setN, ↓reduceIte, Nat.reduceEqDiff, b2_0, b2_1, b2_nn, n0_or, n1_or, n10, n01, dec1, dec2, ob_ok, oe_l, oe_r,hkn, pS_no, m1le, show (-nI 1 = nI 7) ↔ False from by decide, show (-nI 1 = nI 8) ↔ False from by decide]
      · refine alikeT (t := 1) (k := 1) (C' := C2) (S1 := S1) (v := nI 0) ?_ ?_ rfl hR1 G2 hA hio2 (Nat.le_refl _) (by omega)
        · simp (disch := omega) only [gd_ok, cl_nI, nI_s, nI_add, nI_leI, nI_ltI, nI_eq, if_pos, if_neg, q0, q1, q2, q3, q4, q5, q6, q7, q8, q9, q10, CS.i_setI, CS.l_setI, CS.r_setI, CS.a_setI, CS.q_setI, CS.z_setI, CS.i_setL, CS.l_setL, CS.r_setL, CS.a_setL, CS.q_setL, CS.z_setL, CS.i_setR, CS.l_setR, CS.r_setR, CS.a_setR, CS.q_setR, CS.z_setR, CS.i_setA, CS.l_setA, CS.r_setA, CS.a_setA, CS.q_setA, CS.z_setA, CS.i_setQ, CS.l_setQ, CS.r_setQ, CS.a_setQ, CS.q_setQ, CS.z_setQ, CS.i_setF, CS.l_setF, CS.r_setF, CS.a_setF, CS.q_setF, CS.z_setF, CS.i_new, CS.l_new, CS.r_new, CS.a_new, CS.q_new, CS.z_new, Nat.reduceEqDiff, false_and, true_and, and_false, and_true, if_true, if_false, b2_0, b2_1, b2_nn, n0_or, n1_or, n10, n01, dec1, dec2, ob_ok, oe_l, oe_r, gl_ok, gle_ok, gn_s, gv_ok, gv_none, on_none, onSome,u11, htc, hsh, hnv]
          by_cases h1 : a = 1 + (if act = 4 then 1 else 0) ∧ (act = 4 → bs.length ≤ 1024)
          · rw [if_pos (by simpa using h1)]
            simp only [oe_l, hnk]
            rw [if_neg (fun h => hok ⟨h1, h⟩)]
            rfl
          · rw [if_neg (by simpa using h1)]
            rfl
        · unfold m_rset_J35 m_rset_J63
          simp (disch := omega) only [gd_ok, cl_nI, nI_s, nI_add, nI_leI, nI_ltI, nI_eq, if_pos, if_neg, q0, q1, q2, q3, q4, q5, q6, q7, q8, q9, q10, MS.i_setI, MS.a_setI, MS.n_setI, MS.i_setA, MS.a_setA, MS.n_setA, MS.i_setN, MS.a_setN, MS.n_setN, ↓reduceIte, Nat.reduceEqDiff, b2_0, b2_1, b2_nn, n0_or, n1_or, n10, n01, dec1, dec2, ob_ok, oe_l, oe_r,htk, pS_isR hr, e5, e6, hik, pS_no, show (1024 : Int32) = nI 1024 from by decide]
          by_cases h4 : act = 4
          · simp only [h4, if_true, true_implies] at hok ⊢
            by_cases h1 : a = 2
            · rw [if_pos h1]
              by_cases h2 : 1 ≤ bf.length ∧ bf.length ≤ 64
              · rw [decide_eq_true h2, if_neg (by simp), if_neg (by omega)]
              · rw [decide_eq_false h2, if_pos rfl]
            · rw [if_neg h1]
          · simp only [h4, if_false] at hok ⊢
            by_cases h1 : a = 1
            · rw [if_pos h1]
              rw [decide_eq_false (fun h2 => hok ⟨⟨by omega, fun h => absurd h (by simp)⟩, h2⟩), if_pos rfl]
            · rw [if_neg h1]
end CSET2
