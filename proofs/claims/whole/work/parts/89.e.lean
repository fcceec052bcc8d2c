/-! THE CALL read. -/
section RDE
variable {S S' : MS} {N N' : Nat → Nat} {C C' : CS} {A B D : AS} {J : JS} {r rd rd' i lb : Nat} {tx : List Nat} {x3 x3' : Int32} {x : Option Nat} {bi bf bs bo : List Nat} {ji jf js a : Nat}
theorem CR.KC (h : CR N C js bs J) : KC C J ∧ ∀ v, v < J.n → C.r 9 9 v = none := ⟨⟨h.2.2.1, h.2.2.2.2.1, fun v hv => by
    obtain ⟨c1, c2, c3, c4, c5, c6⟩ := h.2.2.2.2.2.2.2.2 v hv
    exact ⟨c1, c2, c3, c4, c5⟩⟩, fun v hv => (h.2.2.2.2.2.2.2.2 v hv).2.2.2.2.2.2⟩
theorem SR.KS (h : SR S bs J) : KS S J := ⟨h.2.1, h.2.2.1, h.2.2.2.2.2.2⟩
theorem KS.i0 (h : KS S J) {x : Int32} : KS (S.setI 0 x) J := ⟨h.1, h.2.1, h.2.2⟩
set_option maxHeartbeats 2000000 in
theorem call_read (hI : INV S N C A rd) (hrd : rd + 60000 < 2 ^ 30) (x1 x2 : Int32) : ALIKE [(1, 1), (2, 2), (3, 3), (4, 4)] A rd N (m_cJT_read N 0 C x1 x2) (m_rread S x1 x2) := by
  obtain ⟨hR, G, hA, bi, bf, bs, bo, ji, jf, js, a, hio⟩ := hI
  obtain ⟨u0, u1, u2, u3, u4, u5, u6, u7, u8, u9, u10, u11, u12, u13, u14, u15, u16, u17, u18⟩ := G.nn
  obtain ⟨s1, s2, s3, s4, s5, s6, s7, s8, s9, s10, s11, s12, s13, s14, s15, s16, s17, s18, s19, s20, s21⟩ := G.st
  have hio0 := hio
  obtain ⟨⟨a1, a2, a3, a4, a5, a6, a7⟩, _, ⟨c1, c2, c3, c4, c5⟩, ⟨d1, d2, d3, d4, d5⟩, _, ⟨f1, f2, f3⟩, _⟩ := hio0
  have htk := pS_taken f1
  have htc := cJ_take u11 f2
  have hR1 : RS (S.setI 7 (nI 0)) A := hR.setI rfl
  have G1 : RC N (C.setI 11 11 0 (nI 0)) A rd := RC_take G
  have hio1 := hio.take
  have e5 : (S.setI 7 (nI 0)).i 5 = nI bf.length := c3
  generalize S.setI 7 (nI 0) = S1 at htk hR1 hio1 e5
  generalize C.setI 11 11 0 (nI 0) = C1 at htc G1 hio1
  unfold m_cJT_read m_cJT_read_J0 m_rread m_rread_J0
  rcases rep_or x1 with hx1 | ⟨r, hr, rfl⟩
  · refine alikeT (t := 1) (k := 1) (C' := C1) (S1 := S1) (v := nI 0) ?_ ?_ rfl hR1 G1 hA hio1 (Nat.le_refl _) (by omega)
    · simp (disch := omega) only [gd_ok, cl_nI, nI_s, nI_add, nI_leI, nI_ltI, nI_eq, if_pos, if_neg, q0, q1, q2, q3, q4, q5, q6, q7, q8, q9, q10, CS.i_setI, CS.l_setI, CS.r_setI, CS.a_setI, CS.q_setI, CS.z_setI, CS.i_setL, CS.l_setL, CS.r_setL, CS.a_setL, CS.q_setL, CS.z_setL, CS.i_setR, CS.l_setR, CS.r_setR, CS.a_setR, CS.q_setR, CS.z_setR, CS.i_setA, CS.l_setA, CS.r_setA, CS.a_setA, CS.q_setA, CS.z_setA, CS.i_setQ, CS.l_setQ, CS.r_setQ, CS.a_setQ, CS.q_setQ, CS.z_setQ, CS.i_setF, CS.l_setF, CS.r_setF, CS.a_setF, CS.q_setF, CS.z_setF, CS.i_new, CS.l_new, CS.r_new, CS.a_new, CS.q_new, CS.z_new, Nat.reduceEqDiff, false_and, true_and, and_false, and_true, if_true, if_false, b2_0, b2_1, b2_nn, n0_or, n1_or, n10, n01, dec1, dec2, ob_ok, oe_l, oe_r, gl_ok, gle_ok, gn_s, gv_ok, gv_none, on_none, onSome,u11, htc, cJ_shownN hx1]
    · rw [htk, ob_ok]
      simp only []
      rw [pS_isN hx1, ob_ok]
      rfl
  · obtain ⟨C2, hsh, G2, hv2, hfr2⟩ := cJ_shown G1 hA hr
    have hio2 := hio1.fr frS.refl hfr2
    have hnk := cJ_needKey G2 hio2
    have hik := pS_isKey (S := S1) (k := bf.length) (by omega)
    by_cases ha2 : a = 2
    · subst ha2
      by_cases hok : 1 ≤ bf.length ∧ bf.length ≤ 64
      · rw [if_pos hok] at hnk
        rw [decide_eq_true hok] at hik
        obtain ⟨C3, S3, y, p1, p2, p3, p4, p5, p6, p7, p8, p9⟩ := jparse G2 hio2
        have G3 : RC N C3 A rd := p3.rc G2 p5 p6 p7
        have hio3 := hio2.q p4 p3
        have hR3 : RS S3 A := p4.rs hR1
        have hv3 : VC C3 A r := fun q hq => by rw [p3.2.2.2.1 12 8 q (by omega)]; exact hv2 q hq
        have e10 : C2.r 11 10 0 = some js := hio2.1.2.2.1
        have e3 : C2.r 11 3 0 = some 0 := G2.st.2.2.2.1
        have hjs := d1.1
        have hcl : (gl 0 (N 11) (ob (m_cJT_takeArguments N 0 C) (fun o_1 => oe (m_cJT_shown N 0 o_1.1 (nI r)) (fun o_3 => (if o_1.2 = 2 then oe (m_cJT_needKey N 0 o_3.1) (fun o_7 => gn (o_7.r 11 10 0) (N 5) (fun j_10 => gn (o_7.r 11 3 0) (N 1) (fun j_13 => ob (m_cRd_parse N j_13 o_7 j_10) (fun o_16 => (if o_16.2 = 0 then gn (o_16.1.r 11 3 0) (N 1) (fun j_48 => some ((.inr (N, (o_16.1.setI 11 12 0 (o_16.1.i 1 4 j_48)), 1)), 1, 6)) else oe (m_cJT_mapAt N 0 o_16.1 x2) (fun o_19 => gn o_3.2 (N 4) (fun j_22 => oe (m_cJT_needAll N 0 o_19.1 j_22) (fun o_25 => gn (o_25.r 11 3 0) (N 1) (fun j_28 => gn (o_25.r 11 9 0) (N 5) (fun j_31 => gn (o_25.r 1 1 j_28) (N 5) (fun j_34 => oe (m_cJT_needRoom N 0 o_25 (o_25.i 1 3 j_28) ((o_25.i 5 1 j_31) + (o_25.i 5 1 j_34))) (fun o_37 => gn o_19.2 (N 3) (fun j_40 => oq (m_cJT_writeValues N 0 o_37 j_22 j_40) (fun N_45 S_46 v_47 => some ((.inl (N_45, S_46, v_47)), 0, 0)))) (fun t_39 => some ((.inr (N, t_39.1, t_39.2)), 1, 6)))))) (fun t_27 => some ((.inr (N, t_27.1, t_27.2)), 1, 6)))) (fun t_21 => some ((.inr (N, t_21.1, t_21.2)), 1, 6))))))) (fun t_9 => some ((.inr (N, t_9.1, t_9.2)), 1, 6)) else some ((.inr (N, o_3.1, 1)), 1, 6))) (fun t_5 => some ((.inr (N, t_5.1, t_5.2)), 1, 6)))) : Option ((((Nat → Nat) × CS × Int32) ⊕ ((Nat → Nat) × CS × Nat)) × Nat × Nat)) = (if b2 y = 0 then some ((.inr (N, (C3.setI 11 12 0 (C3.i 1 4 0)), 1)), 1, 6) else oe (m_cJT_mapAt N 0 C3 x2) (fun o_19 => oe (m_cJT_needAll N 0 o_19.1 r) (fun o_25 => gn (o_25.r 11 3 0) (N 1) (fun j_28 => gn (o_25.r 11 9 0) (N 5) (fun j_31 => gn (o_25.r 1 1 j_28) (N 5) (fun j_34 => oe (m_cJT_needRoom N 0 o_25 (o_25.i 1 3 j_28) ((o_25.i 5 1 j_31) + (o_25.i 5 1 j_34))) (fun o_37 => gn o_19.2 (N 3) (fun j_40 => oq (m_cJT_writeValues N 0 o_37 r j_40) (fun N_45 S_46 v_47 => some ((.inl (N_45, S_46, v_47)), 0, 0)))) (fun t_39 => some ((.inr (N, t_39.1, t_39.2)), 1, 6)))))) (fun t_27 => some ((.inr (N, t_27.1, t_27.2)), 1, 6))) (fun t_21 => some ((.inr (N, t_21.1, t_21.2)), 1, 6))) := by
          rw [gl_ok (by omega), htc, ob_ok]
          simp only [hsh, oe_l]
          rw [if_pos (show nI 2 = 2 from rfl), hnk, oe_l, e10, gn_s (by omega), e3, gn_s (by omega), p1, ob_ok]
          simp only []
          rw [show C3.r 11 3 0 = some 0 from G3.st.2.2.2.1, gn_s (by omega)]
          simp only [gn_s (show r < N 4 by omega)]
        rw [hcl]
        have hsl : (ob (m_rtaken S) (fun o_1 => ob (m_risReplica o_1.1 (nI r)) (fun o_3 => (if o_3.2 = 0 then m_rread_J27 o_3.1 else (if o_1.2 = 2 then ob (m_risKey o_3.1 (o_3.1.i 5)) (fun o_7 => (if o_7.2 = 0 then m_rread_J27 o_7.1 else ob (m_rjson o_7.1) (fun o_10 => (if o_10.2 = 0 then ob (m_rno (o_10.1.setI 42 (o_10.1.i 66)) 1) (fun o_34 => some (o_34.1, o_34.2)) else ob (m_rkindOf o_10.1 (nI r) x2) (fun o_13 => (if o_13.2 = 7 then m_rread_J76 o_13.1 else (if o_13.2 = 8 then m_rread_J76 o_13.1 else (if 0 ≤ o_13.2 then gd (nI r) 8 ((if o_13.1.a 39 (nI r).toNatClampNeg < 0 then ob (m_rread_L117 o_13.1 (nI r) x2 (o_13.1.i 5) 0) (fun b_20 => ob (m_rfull b_20.1 (b_20.1.i 64) b_20.2.2.2) (fun o_22 => (if o_22.2 = 0 then ob (m_rread_L194 (o_22.1.setI 0 0) b_20.2.1 b_20.2.2.1 0) (fun b_25 => gd (b_25.a 59 ((0 : Int32).toNatClampNeg)) 4000 (some (b_25, b_25.a 8 ((b_25.a 59 ((0 : Int32).toNatClampNeg)).toNatClampNeg)))) else ob (m_rno o_22.1 4) (fun o_28 => some (o_28.1, o_28.2))))) else ob (m_rno o_13.1 2) (fun o_30 => some (o_30.1, o_30.2)))) else ob (m_rno o_13.1 3) (fun o_32 => some (o_32.1, o_32.2)))))))))) else m_rread_J27 o_3.1))))) = (if b2 y = 0 then some ((S3.setI 42 (S3.i 66)).setI 0 (nI 1), nI 0) else ob (m_rkindOf S3 (nI r) x2) (fun o_13 => (if o_13.2 = 7 then m_rread_J76 o_13.1 else (if o_13.2 = 8 then m_rread_J76 o_13.1 else (if 0 ≤ o_13.2 then gd (nI r) 8 ((if o_13.1.a 39 (nI r).toNatClampNeg < 0 then ob (m_rread_L117 o_13.1 (nI r) x2 (o_13.1.i 5) 0) (fun b_20 => ob (m_rfull b_20.1 (b_20.1.i 64) b_20.2.2.2) (fun o_22 => (if o_22.2 = 0 then ob (m_rread_L194 (o_22.1.setI 0 0) b_20.2.1 b_20.2.2.1 0) (fun b_25 => gd (b_25.a 59 ((0 : Int32).toNatClampNeg)) 4000 (some (b_25, b_25.a 8 ((b_25.a 59 ((0 : Int32).toNatClampNeg)).toNatClampNeg)))) else ob (m_rno o_22.1 4) (fun o_28 => some (o_28.1, o_28.2))))) else ob (m_rno o_13.1 2) (fun o_30 => some (o_30.1, o_30.2)))) else ob (m_rno o_13.1 3) (fun o_32 => some (o_32.1, o_32.2))))))) := by
          rw [htk, ob_ok]
          simp only []
          rw [pS_isR hr, ob_ok]
          simp only []
          rw [if_neg (show ¬ nI 1 = 0 by decide), if_pos (show nI 2 = 2 from rfl), e5, hik, ob_ok]
          simp only []
          rw [if_neg (show ¬ b2 true = 0 by decide), p2, ob_ok]
          rfl
        rw [hsl]
        clear hcl hsl
        cases y with
        | false =>
          have hat := p9 rfl
          rw [if_pos (show b2 false = 0 from rfl), if_pos (show b2 false = 0 from rfl)]
          have hio4 : RIO (S3.setI 42 (S3.i 66)) (C3.setI 11 12 0 (C3.i 1 4 0)) bi bf bs bo ji jf js 0 := by
            rw [hat]
            exact hio3.whr
          exact alikeT (t := 1) (k := 1) (C' := C3.setI 11 12 0 (C3.i 1 4 0)) (S1 := S3.setI 42 (S3.i 66)) (v := nI 0) rfl rfl rfl (hR3.setI rfl) (RC_take G3) hA hio4 (Nat.le_refl _) (by omega)
        | true =>
          obtain ⟨J, q1, q2, q3, q4⟩ := p8 rfl
          rw [if_neg (show ¬ b2 true = 0 by decide), if_neg (show ¬ b2 true = 0 by decide)]
          obtain ⟨hKC, hK9⟩ := q1.KC
          have hKS := q2.KS
          have h1i := q3.1
          have hd8 : J.d.length = sumN J.w J.n := by have := q3.2.2.2.1; omega
          rcases cJ_mapAt G3 hA hv3 x2 with ⟨x, hx, rfl, hkd, hmp⟩ | ⟨x, hx, rfl, hkd, hmp⟩ | ⟨hno, hmp⟩
          · have hkn := kind_x hR3 hA hr hx
            have hna := cJ_needAll G3 hr
            have hllt := lk_lt hR3 hA hr
            have hxl := oV_ltn hx
            have hox := ox_lt hxl
            rw [hmp, oe_l, hna, hkn, ob_ok]
            simp only []
            rw [hkd, if_neg (show ¬ nI 6 = 7 by decide), if_neg (show ¬ nI 6 = 8 by decide), if_pos (show (0 : Int32) ≤ nI 6 by decide), gd_ok hr (by omega), cl_nI (by omega)]
            by_cases hl : A.lk r = none
            · rw [if_pos hl, oe_l, if_pos (show S3.a 39 r < 0 from hllt.mpr hl)]
              obtain ⟨_, _, ⟨w1, w2, w3, w4, w5⟩, _⟩ := id hio3
              have hjf := w1.1
              have hroom := cJ_needRoom G3 hA (x := J.n) (y := bf.length + J.d.length) (by omega) (by omega)
              have hfull := pS_full hR3 hA (x := J.n) (y := bf.length + J.d.length) (by omega) (by omega)
              rw [show C3.r 11 3 0 = some 0 from G3.st.2.2.2.1, gn_s (by omega), show C3.r 11 9 0 = some jf from hio3.1.2.1, gn_s (by omega), show C3.r 1 1 0 = some 1 from p7, gn_s (by omega), hKC.2.1, w1.2.2.1, hKC.1.1.2.2.1, nI_add, hroom, w3, s_sum q3 hKS (nI r) (nI (A.oi x)) w5, ob_ok]
              simp only []
              rw [hKS.2.1, ← hd8, hfull, ob_ok]
              simp only []
              by_cases hrm : 4000 < A.n + J.n ∨ 24576 < A.kn + (bf.length + J.d.length)
              · rw [if_pos hrm, oe_r, decide_eq_true hrm, if_neg (show ¬ b2 true = 0 by decide)]
                exact alikeT (t := 4) (k := 4) (C' := C3) (S1 := S3) (v := nI 0) rfl rfl rfl hR3 G3 hA hio3 (Nat.le_refl _) (by omega)
              · rw [if_neg hrm, oe_l, decide_eq_false hrm, if_pos (show b2 false = 0 from rfl), gn_s (by omega)]
                have hW0 : WIN A J r bf.length 0 N C3 (S3.setI 0 0) A rd 0 := ⟨⟨hR3.setI rfl, G3, hA, hv3, hl⟩, ⟨rfl, rfl, rfl⟩, ⟨hKC, hKS.i0⟩, fun v hv => absurd hv (Nat.not_lt_zero _), fun v _ hv => hK9 v hv, fun _ => rfl, fun g => absurd g (Nat.lt_irrefl _), rfl⟩
                obtain ⟨N4, C4, S4, B4, rd4, y4, c, z, l1, l2, l3, l4, l5, l6, l7, l8⟩ := w_all q3 hr hx hkd hok (by omega) (by omega) J.n 0 FU N C3 (S3.setI 0 0) A rd 0 (by omega) (by unfold FU; omega) hW0 (hio3.fr (frS_setI (k := 0) (v := 0) (by decide)) frC.refl) (by omega)
                obtain ⟨⟨hR4, G4, hA4, hV4, hlk4⟩, ⟨b1, b2', b3⟩, _, g3, _, _, g6, g7⟩ := id l3
                have h59 := (g3 0 q4).2.1
                rw [Nat.add_zero] at h59
                have h8 : S4.a 8 A.n = nI (B4.id A.n) := (hR4.2.1 A.n (by omega)).1
                refine Or.inl ⟨N4, C4, y4, c, z, S4, B4, rd4, ?_, ?_, g7, ⟨hR4, G4, hA4, bi, bf, bs, bo, ji, jf, js, 0, l4⟩, by omega, by omega, l7, by omega, by omega, by omega⟩
                · unfold m_cJT_writeValues m_cJT_writeValues_J0
                  rw [show m_cJT_writeValues_L5 N 0 C3 (some r) (some (ox x)) 0 0 = some ((N4, C4, y4), c, z) by unfold m_cJT_writeValues_L5; exact l1, ov_ok, al_ok, oq_ok, al_ok]
                  simp only [Nat.zero_add]
                · rw [show m_rread_L194 (S3.setI 0 0) (nI r) (nI (A.oi x)) 0 = some S4 by unfold m_rread_L194; exact l2, ob_ok, show ((0 : Int32).toNatClampNeg) = 0 from rfl, h59, gd_ok (by omega) (by omega), cl_nI (by omega), h8, g6 q4]
            · rw [if_neg hl, oe_r, if_neg (show ¬ S3.a 39 r < 0 from fun g => hl (hllt.mp g))]
              exact alikeT (t := 2) (k := 2) (C' := C3) (S1 := S3) (v := nI 0) rfl rfl rfl hR3 G3 hA hio3 (Nat.le_refl _) (by omega)
          · have hkn := kind_x hR3 hA hr hx
            have h68 := kd_le8 hx
            refine alikeT (t := 1) (k := 1) (C' := C3) (S1 := S3) (v := nI 0) ?_ ?_ rfl hR3 G3 hA hio3 (Nat.le_refl _) (by omega)
            · rw [hmp, oe_r]
            · rw [hkn, ob_ok]
              simp only []
              unfold m_rread_J76
              by_cases h7 : A.kd x = 7
              · rw [if_pos (show nI (A.kd x) = 7 by rw [h7]; rfl)]; rfl
              · have h8 : A.kd x = 8 := by omega
                rw [h8, if_neg (show ¬ nI 8 = 7 by decide), if_pos (show nI 8 = 8 from rfl)]; rfl
          · have hkn := kind_n hR3 hA hr hno
            refine alikeT (t := 3) (k := 3) (C' := C3) (S1 := S3) (v := nI 0) ?_ ?_ rfl hR3 G3 hA hio3 (Nat.le_refl _) (by omega)
            · rw [hmp, oe_r]
            · rw [hkn, ob_ok]
              simp only []
              rw [if_neg (show ¬ (-nI 1 : Int32) = 7 by decide), if_neg (show ¬ (-nI 1 : Int32) = 8 by decide), if_neg (show ¬ (0 : Int32) ≤ -nI 1 by decide)]
              rfl
      · rw [if_neg hok] at hnk
        rw [decide_eq_false hok] at hik
        refine alikeT (t := 1) (k := 1) (C' := C2) (S1 := S1) (v := nI 0) ?_ ?_ rfl hR1 G2 hA hio2 (Nat.le_refl _) (by omega)
        · rw [gl_ok (by omega), htc, ob_ok]
          simp only [hsh, oe_l]
          rw [if_pos (show nI 2 = 2 from rfl), hnk, oe_r]
        · rw [htk, ob_ok]
          simp only []
          rw [pS_isR hr, ob_ok]
          simp only []
          rw [if_neg (show ¬ nI 1 = 0 by decide), if_pos (show nI 2 = 2 from rfl), e5, hik, ob_ok]
          rfl
    · have hne : ¬ nI a = 2 := fun g => ha2 ((nI_eq (a := a) (b := 2) (by omega) (by omega)).mp g)
      refine alikeT (t := 1) (k := 1) (C' := C2) (S1 := S1) (v := nI 0) ?_ ?_ rfl hR1 G2 hA hio2 (Nat.le_refl _) (by omega)
      · rw [gl_ok (by omega), htc, ob_ok]
        simp only [hsh, oe_l]
        rw [if_neg hne]
      · rw [htk, ob_ok]
        simp only []
        rw [pS_isR hr, ob_ok]
        simp only []
        rw [if_neg (show ¬ nI 1 = 0 by decide), if_neg hne]
        rfl
end RDE
