/-! THE CALLS send, join. -/
def AS.jn (A : AS) (p r : Nat) : Nat → AS
  | 0 => A
  | i + 1 => if ((A.jn p r i).hasB p i || (A.jn p r i).wt p i) = true then (A.jn p r i).exp r i else A.jn p r i
section SJ
variable {S S' : MS} {N : Nat → Nat} {C C' : CS} {A : AS} {r c rd p : Nat} {bi bf bs bo : List Nat} {ji jf js a : Nat}
theorem jn_s {i : Nat} : A.jn p r (i + 1) = if ((A.jn p r i).hasB p i || (A.jn p r i).wt p i) = true then (A.jn p r i).exp r i else A.jn p r i := rfl
theorem jn_ok (hA : AI A) : ∀ {i : Nat}, i ≤ A.m → AI (A.jn p r i) ∧ (A.jn p r i).on = A.on ∧ (A.jn p r i).n = A.n ∧ (A.jn p r i).m = A.m := by
  intro i
  induction i with
  | zero => intro _; exact ⟨hA, rfl, rfl, rfl⟩
  | succ i ih =>
    intro hi
    obtain ⟨h1, h2, h3, h4⟩ := ih (by omega)
    rw [jn_s]
    split
    · exact ⟨exp_AI h1 (by omega), by rw [exp_on]; exact h2, by rw [exp_n]; exact h3, by rw [exp_m]; exact h4⟩
    · exact ⟨h1, h2, h3, h4⟩
theorem cJ_needNone (G : RC N C A rd) (hA : AI A) (hr : r < 8) : m_cJT_needNoneOpen N 0 C r = some (if A.on r = 0 then .inl C else .inr (C, 2)) := by
  obtain ⟨u0, u1, u2, u3, u4, u5, u6, u7, u8, u9, u10, u11, u12, u13, u14, u15, u16, u17, u18⟩ := G.nn
  have hT := hA.2.2.2.1.1 r
  have hn := hA.1.1
  unfold m_cJT_needNoneOpen m_cJT_needNoneOpen_J0
  rw [gl_ok (by omega), (G.rp r hr).2.2.2.2.2.2.2.2]
  by_cases e : A.on r = 0
  · rw [if_pos e, e]; rfl
  · rw [if_neg e, if_neg (fun h => e (by have := (nI_leI (b := 0) (by omega) (by omega)).mp h; omega))]
theorem rjoin_loop (hR : RS S A) (hA : AI A) (hp : p < 8) (hr : r < 8) : ∃ S', m_rjoin_L41 S (nI p) (nI r) (nI 0) = some (S', nI r) ∧ RS S' (A.jn p r A.m) ∧ S'.i 0 = S.i 0 ∧ frS S S' := by
  have hm := hA.1.2.1
  have := lp_run (body := fun w : MS × Int32 × Int32 × Int32 => m_rjoin_B41 w.1 w.2.1 w.2.2.1 w.2.2.2) (fun i w => ∃ W, w = (W, nI p, nI r, nI i) ∧ RS W (A.jn p r i) ∧ W.i 0 = S.i 0 ∧ frS S W) (fun e => ∃ W, e = (W, nI r) ∧ RS W (A.jn p r A.m) ∧ W.i 0 = S.i 0 ∧ frS S W) A.m ?_ FU (S, nI p, nI r, nI 0) (by unfold FU; omega) ⟨S, rfl, hR, rfl, frS.refl⟩
  · obtain ⟨e, h1, W, rfl, h2, h3, h4⟩ := this
    refine ⟨W, ?_, h2, h3, h4⟩
    unfold m_rjoin_L41
    exact h1
  · rintro i _ hi ⟨W, rfl, w1, w2, w3⟩
    obtain ⟨k1, k2, k3, k4⟩ := jn_ok (p := p) (r := r) hA hi
    have w34 : W.i 34 = nI A.m := by rw [w1.1.2.1, k4]
    by_cases hin : i < A.m
    · left
      have hrp := (w1.2.2.2.2.2.2.2 p hp).2 i (by omega)
      have hJ : m_rjoin_J71 W (nI p) (nI r) (nI i) = some (.inl ((if W.a (101 + r) i = 0 then W.setA (109 + r) (upd (W.a (109 + r)) i 1) else W), nI p, nI r, nI (i + 1))) := by
        unfold m_rjoin_J71 m_rjoin_J91
        rw [gd_ok hr (by omega), gd_ok (by omega) (by omega), cl_nI (show r < 2 ^ 31 by omega), cl_nI (show i < 2 ^ 31 by omega), gd_ok hr (by omega), gd_ok (by omega) (by omega), nI_s, show vp_nar .boolean 1 = 1 from by decide]
        by_cases e : W.a (101 + r) i = 0
        · rw [if_pos e, if_pos e]
        · rw [if_neg e, if_neg e]
      have hx : frS W (if W.a (101 + r) i = 0 then W.setA (109 + r) (upd (W.a (109 + r)) i 1) else W) ∧ (if W.a (101 + r) i = 0 then W.setA (109 + r) (upd (W.a (109 + r)) i 1) else W).i 0 = W.i 0 := by
        split
        · exact ⟨⟨fun j _ => rfl, fun k hk => by rw [MS.a_setA, if_neg (by omega)]⟩, rfl⟩
        · exact ⟨frS.refl, rfl⟩
      have hB : m_rjoin_B41 W (nI p) (nI r) (nI i) = if ((A.jn p r i).hasB p i || (A.jn p r i).wt p i) = true then m_rjoin_J71 W (nI p) (nI r) (nI i) else m_rjoin_J91 W (nI p) (nI r) (nI i) := by
        unfold m_rjoin_B41
        rw [w34, if_neg (nle hin (by omega)), gd_ok hp (by omega), gd_ok (by omega) (by omega), cl_nI (show p < 2 ^ 31 by omega), cl_nI (show i < 2 ^ 31 by omega), hrp.1, gd_ok hp (by omega), gd_ok (by omega) (by omega), hrp.2.1]
        cases (A.jn p r i).hasB p i with
        | true => rfl
        | false =>
          cases (A.jn p r i).wt p i with
          | true => rfl
          | false => rfl
      by_cases e : ((A.jn p r i).hasB p i || (A.jn p r i).wt p i) = true
      · refine ⟨_, by show m_rjoin_B41 W (nI p) (nI r) (nI i) = _; rw [hB, if_pos e, hJ], hin, _, rfl, ?_, by rw [hx.2]; exact w2, w3.trans hx.1⟩
        rw [jn_s, if_pos e]
        exact RS_exp w1 k1 hr (by omega)
      · refine ⟨(W, nI p, nI r, nI (i + 1)), ?_, hin, W, rfl, ?_, w2, w3⟩
        · show m_rjoin_B41 W (nI p) (nI r) (nI i) = _
          rw [hB, if_neg e]
          unfold m_rjoin_J91
          rw [nI_s]
        · rw [jn_s, if_neg e]
          exact w1
    · right
      have e : i = A.m := by omega
      refine ⟨(W, nI r), ?_, W, rfl, by rw [← e]; exact w1, w2, w3⟩
      show m_rjoin_B41 W (nI p) (nI r) (nI i) = _
      unfold m_rjoin_B41
      rw [w34, e, if_pos (Int32.le_refl _)]
theorem cjoin_loop (G : RC N C A rd) (hA : AI A) (hp : p < 8) (hr : r < 8) : ∃ C', m_cJT_join_L22 N 0 C (some p) (some r) (nI 0) = some (C', some r) ∧ RC N C' (A.jn p r A.m) rd ∧ frC C C' := by
  obtain ⟨u0, u1, u2, u3, u4, u5, u6, u7, u8, u9, u10, u11, u12, u13, u14, u15, u16, u17, u18⟩ := G.nn
  have hm := hA.1.2.1
  have := lp_run (body := fun w : CS × Option Nat × Option Nat × Int32 => m_cJT_join_B22 N 0 w.1 w.2.1 w.2.2.1 w.2.2.2) (fun i w => ∃ W, w = (W, some p, some r, nI i) ∧ RC N W (A.jn p r i) rd ∧ frC C W) (fun e => ∃ W, e = (W, some r) ∧ RC N W (A.jn p r A.m) rd ∧ frC C W) A.m ?_ FU (C, some p, some r, nI 0) (by unfold FU; omega) ⟨C, rfl, G, frC.refl⟩
  · obtain ⟨e, h1, W, rfl, h2, h3⟩ := this
    refine ⟨W, ?_, h2, h3⟩
    unfold m_cJT_join_L22
    exact h1
  · rintro i _ hi ⟨W, rfl, w1, w2⟩
    obtain ⟨k1, k2, k3, k4⟩ := jn_ok (p := p) (r := r) hA hi
    have w84 : W.i 8 4 0 = nI A.m := by rw [w1.cg.1, k4]
    have hst8 := w1.st
    by_cases hin : i < A.m
    · left
      have hrp := w1.rp p hp
      have hsz := w1.sz.2.2.2.2.2.2.2.2.2.2.2.2.1 p hp
      have hcg := w1.cg.2.2.2 i (by omega)
      have hB : m_cJT_join_B22 N 0 W (some p) (some r) (nI i) = if ((A.jn p r i).hasB p i || (A.jn p r i).wt p i) = true then m_cJT_join_J65 N 0 W (some p) (some r) (nI i) (some i) else m_cJT_join_J72 N 0 W (some p) (some r) (nI i) := by
        unfold m_cJT_join_B22
        rw [gl_ok (by omega), hst8.1, gn_s (by omega), w84, if_neg (nle hin (by omega)), hst8.2.2.2.2.2.2.2.2.2.2.1, gn_s (by omega), w1.sz.2.2.1, gd_ok (by omega) (by omega), cl_nI (by omega), hcg.1, gn_s (by omega), gn_s (by omega), cR_holds w1 k1 hp (by omega), ob_ok]
        simp only []
        rw [hsz.2.2.1, gn_s (by omega), hsz.2.2.2.2.1, gd_ok (by omega) (by omega), hrp.2.1 i (by omega)]
        cases (A.jn p r i).hasB p i with
        | true => rfl
        | false =>
          cases (A.jn p r i).wt p i with
          | true => rfl
          | false => rfl
      by_cases e : ((A.jn p r i).hasB p i || (A.jn p r i).wt p i) = true
      · obtain ⟨W2, x1, x2, x3⟩ := cR_expect w1 k1 hr (c := i) (by omega)
        refine ⟨(W2, some p, some r, nI (i + 1)), ?_, hin, W2, rfl, by rw [jn_s, if_pos e]; exact x2, w2.trans x3⟩
        show m_cJT_join_B22 N 0 W (some p) (some r) (nI i) = _
        rw [hB, if_pos e]
        unfold m_cJT_join_J65 m_cJT_join_J72
        rw [gn_s (by omega), gn_s (by omega), x1, ob_ok, nI_s]
      · refine ⟨(W, some p, some r, nI (i + 1)), ?_, hin, W, rfl, by rw [jn_s, if_neg e]; exact w1, w2⟩
        show m_cJT_join_B22 N 0 W (some p) (some r) (nI i) = _
        rw [hB, if_neg e]
        unfold m_cJT_join_J72
        rw [nI_s]
    · right
      have e : i = A.m := by omega
      refine ⟨(W, some r), ?_, W, rfl, by rw [← e]; exact w1, w2⟩
      show m_cJT_join_B22 N 0 W (some p) (some r) (nI i) = _
      unfold m_cJT_join_B22
      rw [gl_ok (by omega), hst8.1, gn_s (by omega), w84, e, if_pos (Int32.le_refl _)]
theorem open_le (hA : AI A) {r : Nat} : (nI (A.on r) ≤ 0) ↔ A.on r = 0 := by
  have hT := hA.2.2.2.1.1 r
  have hn := hA.1.1
  constructor
  · intro h
    have := (nI_leI (b := 0) (by omega) (by omega)).mp h
    omega
  · intro h
    rw [h]
    decide
theorem call_join (hI : INV S N C A rd) (x1 x2 : Int32) : SLIKE [(1, 1), (2, 2)] A rd N (m_cJT_join N 0 C x1 x2) (m_rjoin S x1 x2) := by
  obtain ⟨hR, G, hA, bi, bf, bs, bo, ji, jf, js, a, hio⟩ := hI
  obtain ⟨u0, u1, u2, u3, u4, u5, u6, u7, u8, u9, u10, u11, u12, u13, u14, u15, u16, u17, u18⟩ := G.nn
  obtain ⟨s1, s2, s3, s4, s5, s6, s7, s8, s9, s10, s11, s12, s13, s14, s15, s16, s17, s18, s19, s20, s21⟩ := G.st
  rcases rep_or x1 with hx1 | ⟨p, hp, rfl⟩
  · refine slikeT (t := 1) (k := 1) (C' := C) (S1 := S) (v := nI 0) ?_ ?_ rfl hR G hA hio (Nat.le_refl _) (by omega)
    · unfold m_cJT_join m_cJT_join_J0
      simp (disch := omega) only [gd_ok, cl_nI, nI_s, nI_add, nI_leI, nI_ltI, nI_eq, if_pos, if_neg, q0, q1, q2, q3, q4, q5, q6, q7, q8, q9, q10, CS.i_setI, CS.l_setI, CS.r_setI, CS.a_setI, CS.q_setI, CS.z_setI, CS.i_setL, CS.l_setL, CS.r_setL, CS.a_setL, CS.q_setL, CS.z_setL, CS.i_setR, CS.l_setR, CS.r_setR, CS.a_setR, CS.q_setR, CS.z_setR, CS.i_setA, CS.l_setA, CS.r_setA, CS.a_setA, CS.q_setA, CS.z_setA, CS.i_setQ, CS.l_setQ, CS.r_setQ, CS.a_setQ, CS.q_setQ, CS.z_setQ, CS.i_setF, CS.l_setF, CS.r_setF, CS.a_setF, CS.q_setF, CS.z_setF, CS.i_new, CS.l_new, CS.r_new, CS.a_new, CS.q_new, CS.z_new, Nat.reduceEqDiff, false_and, true_and, and_false, and_true, if_true, if_false, b2_0, b2_1, b2_nn, n0_or, n1_or, n10, n01, dec1, dec2, ob_ok, oe_l, oe_r, gl_ok, gle_ok, gn_s, gv_ok, gv_none, on_none, onSome,u11, cJ_shownN hx1]
    · unfold m_rjoin m_rjoin_J0
      rw [pr_isN hx1]
      rfl
  obtain ⟨C1, hsh1, G1, hv1, hfr1⟩ := cJ_shown G hA hp
  have hio1 := hio.fr frS.refl hfr1
  have hcx : m_cJT_join N 0 C (nI p) x2 = oe (m_cJT_shown N 0 C1 x2) (fun o_4 => gn o_4.2 (N 4) (fun j_7 => oe (m_cJT_needNoneOpen N 0 o_4.1 j_7) (fun o_10 => ob (m_cJT_join_L22 N 0 o_10 (some p) o_4.2 0) (fun b_13 => gn b_13.2 (N 4) (fun j_15 => gn (b_13.1.r 11 0 0) (N 8) (fun j_18 => ob (m_cSt_settle N j_18 b_13.1 j_15) (fun o_21 => some (.inl (o_21.1, o_21.2))))))) (fun t_12 => some (.inr t_12)))) (fun t_6 => some (.inr t_6)) := by
    unfold m_cJT_join m_cJT_join_J0
    rw [gl_ok (by omega), hsh1, oe_l]
  have hrx : m_rjoin S (nI p) x2 = ob (m_risReplica S x2) (fun o_4 => (if o_4.2 = 0 then m_rjoin_J14 o_4.1 else ob (m_ropen o_4.1 x2) (fun o_7 => (if o_7.2 ≤ 0 then ob (m_rjoin_L41 (o_7.1.setI 0 0) (nI p) x2 0) (fun b_10 => ob (m_rsettle b_10.1 b_10.2) (fun o_12 => some (o_12.1, o_12.2))) else ob (m_rno o_7.1 2) (fun o_14 => some (o_14.1, o_14.2)))))) := by
    unfold m_rjoin m_rjoin_J0
    rw [pr_isR hp, ob_ok, if_neg (show ¬ (1 : Int32) = 0 by decide)]
  rcases rep_or x2 with hx2 | ⟨r, hr, rfl⟩
  · refine slikeT (t := 1) (k := 1) (C' := C1) (S1 := S) (v := nI 0) ?_ ?_ rfl hR G1 hA hio1 (Nat.le_refl _) (by omega)
    · rw [hcx, cJ_shownN hx2, oe_r]
    · rw [hrx, pr_isN hx2]
      rfl
  obtain ⟨C2, hsh2, G2, hv2, hfr2⟩ := cJ_shown G1 hA hr
  have hio2 := hio1.fr frS.refl hfr2
  rw [hsh2, oe_l] at hcx
  simp only [] at hcx
  rw [gn_s (by omega), cJ_needNone G2 hA hr] at hcx
  rw [pr_isR hr, ob_ok, if_neg (show ¬ (1 : Int32) = 0 by decide)] at hrx
  simp only [] at hrx
  rw [pS_open hR hA hr, ob_ok] at hrx
  simp only [] at hrx
  by_cases e : A.on r = 0
  · rw [if_pos e, oe_l] at hcx
    rw [if_pos ((open_le hA).mpr e)] at hrx
    obtain ⟨C3, c1, G3, c3⟩ := cjoin_loop G2 hA hp hr
    obtain ⟨S3, s1', R3, s3', s4'⟩ := rjoin_loop (S := S.setI 0 (nI 0)) (hR.setI rfl) hA hp hr
    obtain ⟨k1, k2, k3, k4⟩ := jn_ok (p := p) (r := r) hA (Nat.le_refl _)
    obtain ⟨B, hB⟩ : ∃ B, B = A.jn p r A.m := ⟨_, rfl⟩
    rw [← hB] at k1 k2 k3 k4 G3 R3
    have hBon : B.on r = 0 := by rw [k2]; exact e
    obtain ⟨C4, d1, G4, d3⟩ := cS_settle G3 k1 hr hBon
    obtain ⟨S4, f1, R4, f3, f4⟩ := pS_settle R3 k1 hr hBon
    obtain ⟨m1, m2, m3, m4, m5⟩ := stl_ok k1 hBon (Nat.le_refl _)
    rw [show m_cJT_join_L22 N 0 C2 (some p) (some r) 0 = _ from c1, ob_ok] at hcx
    simp only [] at hcx
    rw [gn_s (by omega), G3.st.1, gn_s (by omega), d1] at hcx
    rw [show m_rjoin_L41 (S.setI 0 0) (nI p) (nI r) 0 = _ from s1', ob_ok] at hrx
    simp only [] at hrx
    rw [f1] at hrx
    refine Or.inl ⟨C4, _, S4, _, rd, hcx, hrx, by rw [f3, s3', MS.i_setI, if_pos rfl], ⟨R4, G4, m1, bi, bf, bs, bo, ji, jf, js, a, hio2.fr (((frS_setI (by decide)).trans s4').trans f4) (c3.trans d3)⟩, by rw [m3, k3], by rw [m4, k4], Nat.le_refl _, by omega⟩
  · rw [if_neg e, oe_r] at hcx
    rw [if_neg (fun h => e ((open_le hA).mp h))] at hrx
    exact slikeT (t := 2) (k := 2) (C' := C2) (S1 := S) (v := nI 0) hcx hrx rfl hR G2 hA hio2 (Nat.le_refl _) (by omega)
theorem call_send (hI : INV S N C A rd) (x1 x2 x3 x4 : Int32) : SLIKE [(1, 1), (2, 2), (3, 3)] A rd N (m_cJT_send N 0 C x1 x2 x3 x4) (m_rsend S x1 x2 x3 x4) := by
  obtain ⟨hR, G, hA, bi, bf, bs, bo, ji, jf, js, a, hio⟩ := hI
  obtain ⟨u0, u1, u2, u3, u4, u5, u6, u7, u8, u9, u10, u11, u12, u13, u14, u15, u16, u17, u18⟩ := G.nn
  obtain ⟨s1, s2, s3, s4, s5, s6, s7, s8, s9, s10, s11, s12, s13, s14, s15, s16, s17, s18, s19, s20, s21⟩ := G.st
  have hm := hA.1.2.1
  rcases rep_or x1 with hx1 | ⟨p, hp, rfl⟩
  · refine slikeT (t := 1) (k := 1) (C' := C) (S1 := S) (v := nI 0) ?_ ?_ rfl hR G hA hio (Nat.le_refl _) (by omega)
    · unfold m_cJT_send m_cJT_send_J0
      simp (disch := omega) only [gd_ok, cl_nI, nI_s, nI_add, nI_leI, nI_ltI, nI_eq, if_pos, if_neg, q0, q1, q2, q3, q4, q5, q6, q7, q8, q9, q10, CS.i_setI, CS.l_setI, CS.r_setI, CS.a_setI, CS.q_setI, CS.z_setI, CS.i_setL, CS.l_setL, CS.r_setL, CS.a_setL, CS.q_setL, CS.z_setL, CS.i_setR, CS.l_setR, CS.r_setR, CS.a_setR, CS.q_setR, CS.z_setR, CS.i_setA, CS.l_setA, CS.r_setA, CS.a_setA, CS.q_setA, CS.z_setA, CS.i_setQ, CS.l_setQ, CS.r_setQ, CS.a_setQ, CS.q_setQ, CS.z_setQ, CS.i_setF, CS.l_setF, CS.r_setF, CS.a_setF, CS.q_setF, CS.z_setF, CS.i_new, CS.l_new, CS.r_new, CS.a_new, CS.q_new, CS.z_new, Nat.reduceEqDiff, false_and, true_and, and_false, and_true, if_true, if_false, b2_0, b2_1, b2_nn, n0_or, n1_or, n10, n01, dec1, dec2, ob_ok, oe_l, oe_r, gl_ok, gle_ok, gn_s, gv_ok, gv_none, on_none, onSome,u11, cJ_shownN hx1]
    · unfold m_rsend m_rsend_J0
      rw [pr_isN hx1]
      rfl
  obtain ⟨C1, hsh1, G1, hv1, hfr1⟩ := cJ_shown G hA hp
  have hio1 := hio.fr frS.refl hfr1
  rcases rep_or x2 with hx2 | ⟨r, hr, rfl⟩
  · refine slikeT (t := 1) (k := 1) (C' := C1) (S1 := S) (v := nI 0) ?_ ?_ rfl hR G1 hA hio1 (Nat.le_refl _) (by omega)
    · unfold m_cJT_send m_cJT_send_J0
      rw [gl_ok (by omega), hsh1, oe_l]
      simp only []
      rw [cJ_shownN hx2, oe_r]
    · unfold m_rsend m_rsend_J0
      rw [pr_isR hp, ob_ok, if_neg (show ¬ (1 : Int32) = 0 by decide)]
      simp only []
      rw [pr_isN hx2]
      rfl
  obtain ⟨C2, hsh2, G2, hv2, hfr2⟩ := cJ_shown G1 hA hr
  have hio2 := hio1.fr frS.refl hfr2
  have hst2 := G2.st
  have hcx : m_cJT_send N 0 C (nI p) (nI r) x3 x4 = (if x3 < 0 then m_cJT_send_J24 N 0 C2 else (if x3 < 8 then ob (m_cSt_changeAt N 0 C2 x3 x4) (fun o_12 => on o_12.2 (m_cJT_send_J59 N 0 o_12.1) (fun j_14 => gl j_14 (N 0) (gn (some p) (N 4) (fun j_16 => ob (m_cRp_holds N j_16 o_12.1 j_14) (fun o_19 => (if o_19.2 = 0 then m_cJT_send_J59 N 0 o_19.1 else gn (some r) (N 4) (fun j_22 => oe (m_cJT_needNoneOpen N 0 o_19.1 j_22) (fun o_25 => ob (m_cRp_expect N j_22 o_25 j_14) (fun o_28 => gn (o_28.r 11 0 0) (N 8) (fun j_30 => ob (m_cSt_settle N j_30 o_28 j_22) (fun o_33 => some (.inl (o_33.1, o_33.2)))))) (fun t_27 => some (.inr t_27))))))))) else m_cJT_send_J24 N 0 C2)) := by
    unfold m_cJT_send m_cJT_send_J0
    rw [gl_ok (by omega), hsh1, oe_l]
    simp only []
    rw [hsh2, oe_l]
    simp only []
    rw [hst2.1, gn_s (by omega)]
  have hrx : m_rsend S (nI p) (nI r) x3 x4 = ob (m_risReplica S x3) (fun o_7 => (if o_7.2 = 0 then m_rsend_J21 o_7.1 else ob (m_rfind o_7.1 x3 x4) (fun o_10 => (if o_10.2 < 0 then m_rsend_J53 o_10.1 else gd (nI p) 8 (gd o_10.2 1000 ((if o_10.1.a (101 + (nI p).toNatClampNeg) o_10.2.toNatClampNeg = 0 then m_rsend_J53 o_10.1 else ob (m_ropen o_10.1 (nI r)) (fun o_16 => (if o_16.2 ≤ 0 then gd (nI r) 8 (gd o_10.2 1000 ((if o_16.1.a (101 + (nI r).toNatClampNeg) o_10.2.toNatClampNeg = 0 then gd (nI r) 8 (gd o_10.2 1000 (m_rsend_J100 ((o_16.1.setI 0 0).setA (109 + (nI r).toNatClampNeg) (upd (o_16.1.a (109 + (nI r).toNatClampNeg)) o_10.2.toNatClampNeg (vp_nar .boolean 1))) (nI r))) else m_rsend_J100 (o_16.1.setI 0 0) (nI r)))) else ob (m_rno o_16.1 2) (fun o_24 => some (o_24.1, o_24.2)))))))))) ) := by
    unfold m_rsend m_rsend_J0
    rw [pr_isR hp, ob_ok, if_neg (show ¬ (1 : Int32) = 0 by decide)]
    simp only []
    rw [pr_isR hr, ob_ok, if_neg (show ¬ (1 : Int32) = 0 by decide)]
  rcases rep_or x3 with hx3 | ⟨y, hy, rfl⟩
  · refine slikeT (t := 1) (k := 1) (C' := C2) (S1 := S) (v := nI 0) ?_ ?_ rfl hR G2 hA hio2 (Nat.le_refl _) (by omega)
    · rw [hcx]
      by_cases e : x3 < 0
      · rw [if_pos e]; rfl
      · rw [if_neg e, if_neg (show ¬ x3 < 8 from fun h => absurd (hx3.resolve_left e) (Int32.not_le.mpr h))]; rfl
    · rw [hrx, pr_isN hx3]
      rfl
  rw [pr_isR hy, ob_ok, if_neg (show ¬ (1 : Int32) = 0 by decide)] at hrx
  simp only [] at hrx
  rw [pS_find hR hA hy x4, ob_ok] at hrx
  simp only [] at hrx
  rw [if_neg (nI_pos (by omega)), if_pos (show nI y < 8 from (nI_ltI (b := 8) (by omega) (by omega)).mpr hy), cS_changeAt G2 hA hy x4, ob_ok] at hcx
  simp only [] at hcx
  have hnone : m_cJT_send N 0 C (nI p) (nI r) (nI y) x4 = m_cJT_send_J59 N 0 C2 → m_rsend S (nI p) (nI r) (nI y) x4 = m_rsend_J53 S → SLIKE [(1, 1), (2, 2), (3, 3)] A rd N (m_cJT_send N 0 C (nI p) (nI r) (nI y) x4) (m_rsend S (nI p) (nI r) (nI y) x4) := by
    intro h1 h2
    exact slikeT (t := 3) (k := 3) (C' := C2) (S1 := S) (v := nI 0) (by rw [h1]; rfl) (by rw [h2]; rfl) rfl hR G2 hA hio2 (Nat.le_refl _) (by omega)
  cases hf : A.fc y x4 with
  | none =>
    rw [hf] at hcx hrx
    rw [if_pos (show cI none < 0 by decide)] at hrx
    exact hnone hcx hrx
  | some c =>
    rw [hf] at hcx hrx
    obtain ⟨f1, f2, f3⟩ := fc_lt hf
    rw [onSome, gl_ok (by omega), gn_s (by omega), cR_holds G2 hA hp f1, ob_ok] at hcx
    simp only [] at hcx
    rw [show cI (some c) = nI c from rfl, if_neg (nI_pos (by omega)), gd_ok hp (by omega), gd_ok (by omega) (by omega), cl_nI (show p < 2 ^ 31 by omega), cl_nI (show c < 2 ^ 31 by omega), ((hR.2.2.2.2.2.2.2 p hp).2 c (by omega)).1] at hrx
    cases hb : A.hasB p c with
    | false =>
      rw [hb] at hcx hrx
      exact hnone hcx hrx
    | true =>
      rw [hb, if_neg (show ¬ b2 true = 0 by decide)] at hcx hrx
      rw [gn_s (by omega), cJ_needNone G2 hA hr] at hcx
      rw [pS_open hR hA hr, ob_ok] at hrx
      simp only [] at hrx
      by_cases e : A.on r = 0
      · rw [if_pos e, oe_l] at hcx
        rw [if_pos ((open_le hA).mpr e), gd_ok hr (by omega), gd_ok (by omega) (by omega), cl_nI (show r < 2 ^ 31 by omega), gd_ok hr (by omega), gd_ok (by omega) (by omega)] at hrx
        obtain ⟨C3, c1, G3, c3⟩ := cR_expect G2 hA hr f1
        have hR0 : RS (S.setI 0 (nI 0)) A := hR.setI rfl
        have R3 := RS_exp hR0 hA hr f1
        have hA3 := exp_AI (r := r) hA f1
        have hBon : (A.exp r c).on r = 0 := by rw [exp_on]; exact e
        obtain ⟨S3, hS3⟩ : ∃ S3, S3 = (if (S.setI 0 (nI 0)).a (101 + r) c = 0 then (S.setI 0 (nI 0)).setA (109 + r) (upd ((S.setI 0 (nI 0)).a (109 + r)) c 1) else (S.setI 0 (nI 0))) := ⟨_, rfl⟩
        rw [← hS3] at R3
        have hrx' : m_rsend S (nI p) (nI r) (nI y) x4 = m_rsend_J100 S3 (nI r) := by
          rw [hrx, hS3]
          show (if S.a (101 + r) c = 0 then _ else _) = m_rsend_J100 (if S.a (101 + r) c = 0 then _ else _) _
          by_cases e4 : S.a (101 + r) c = 0
          · rw [if_pos e4, if_pos e4]; rfl
          · rw [if_neg e4, if_neg e4]; rfl
        have hfrS : frS S S3 := by
          rw [hS3]
          split
          · refine (frS_setI (k := 0) (v := nI 0) (by decide)).trans ?_
            exact ⟨fun j _ => rfl, fun k hk => by rw [MS.a_setA, if_neg (by omega)]⟩
          · exact frS_setI (by decide)
        have h0 : S3.i 0 = nI 0 := by
          rw [hS3]
          split
          · rfl
          · rfl
        obtain ⟨B, hB⟩ : ∃ B, B = A.exp r c := ⟨_, rfl⟩
        have hBn : B.n = A.n := by rw [hB]; exact exp_n
        have hBm : B.m = A.m := by rw [hB]; exact exp_m
        rw [← hB] at R3 hA3 hBon G3
        obtain ⟨C4, d1, G4, d3⟩ := cS_settle G3 hA3 hr hBon
        obtain ⟨S4, g1, R4, g3, g4⟩ := pS_settle R3 hA3 hr hBon
        obtain ⟨m1, m2, m3, m4, m5⟩ := stl_ok hA3 hBon (Nat.le_refl _)
        rw [c1, ob_ok, G3.st.1, gn_s (by omega), d1] at hcx
        refine Or.inl ⟨C4, _, S4, _, rd, hcx, ?_, by rw [g3]; exact h0, ⟨R4, G4, m1, bi, bf, bs, bo, ji, jf, js, a, hio2.fr (hfrS.trans g4) (c3.trans d3)⟩, by rw [m3, hBn], by rw [m4, hBm], Nat.le_refl _, by omega⟩
        rw [hrx']
        unfold m_rsend_J100
        rw [g1]
        rfl
      · rw [if_neg e, oe_r] at hcx
        rw [if_neg (fun h => e ((open_le hA).mp h))] at hrx
        exact slikeT (t := 2) (k := 2) (C' := C2) (S1 := S) (v := nI 0) hcx hrx rfl hR G2 hA hio2 (Nat.le_refl _) (by omega)
end SJ
