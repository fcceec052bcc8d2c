/-! THE CALLS put and insert. -/
section CPUT
variable {S S' : MS} {N : Nat → Nat} {C C' : CS} {A : AS} {r rd : Nat} {bi bf bs bo : List Nat} {ji jf js a : Nat}
theorem VR.fr {K : Nat} (h : VR A C rd K C') : frC C C' := by
  obtain ⟨g, hh, sz, rd', rfl, _⟩ := h
  exact frC_vs
theorem LMS.frS {x : Option Nat} (h : LMS A r x S S') : frS S S' := by
  obtain ⟨f, c, g, t, rfl, _⟩ := h
  exact (((frS_setA (by decide)).trans (frS_setA (by decide))).trans (frS_setA (by decide))).trans ((frS_setI (by decide)).trans (frS_setA (by decide)))
theorem LMS.a39 {x : Option Nat} (h : LMS A r x S S') : S'.a 39 = S.a 39 ∧ S'.a 8 = S.a 8 := by
  obtain ⟨f, c, g, t, rfl, _⟩ := h
  exact ⟨rfl, rfl⟩
theorem cJ_listAt (G : RC N C A rd) (hA : AI A) (hv : VC C A r) (i : Int32) :
    (∃ x, A.oV r x ∧ i = nI (A.oi x) ∧ A.kd x ≠ 6 ∧ m_cJT_listAt N 0 C i = some (.inl (C, some (ox x)))) ∨ (∃ x, A.oV r x ∧ i = nI (A.oi x) ∧ A.kd x = 6 ∧ m_cJT_listAt N 0 C i = some (.inr (C, 1))) ∨ ((∀ x, A.oV r x → i ≠ nI (A.oi x)) ∧ m_cJT_listAt N 0 C i = some (.inr (C, 3))) := by
  obtain ⟨u0, u1, u2, u3, u4, u5, u6, u7, u8, u9, u10, u11, u12, u13, u14, u15, u16, u17, u18⟩ := G.nn
  unfold m_cJT_listAt m_cJT_listAt_J0
  rcases cJ_objectAt G hA hv i with ⟨x, h1, h2, h3⟩ | ⟨h1, h2⟩
  · have hxl := oV_ltn h1
    have hox := ox_lt hxl
    have hkd := kd_ox G hxl
    have hkdl := kd_le8 h1
    by_cases c : A.kd x = 6
    · right; left
      refine ⟨x, h1, h2, c, ?_⟩
      simp (disch := omega) only [gd_ok, cl_nI, nI_s, nI_add, nI_leI, nI_ltI, nI_eq, if_pos, if_neg, q0, q1, q2, q3, q4, q5, q6, q7, q8, q9, q10, CS.i_setI, CS.l_setI, CS.r_setI, CS.a_setI, CS.q_setI, CS.z_setI, CS.i_setL, CS.l_setL, CS.r_setL, CS.a_setL, CS.q_setL, CS.z_setL, CS.i_setR, CS.l_setR, CS.r_setR, CS.a_setR, CS.q_setR, CS.z_setR, CS.i_setA, CS.l_setA, CS.r_setA, CS.a_setA, CS.q_setA, CS.z_setA, CS.i_setQ, CS.l_setQ, CS.r_setQ, CS.a_setQ, CS.q_setQ, CS.z_setQ, CS.i_setF, CS.l_setF, CS.r_setF, CS.a_setF, CS.q_setF, CS.z_setF, CS.i_new, CS.l_new, CS.r_new, CS.a_new, CS.q_new, CS.z_new, Nat.reduceEqDiff, false_and, true_and, and_false, and_true, if_true, if_false, b2_0, b2_1, b2_nn, n0_or, n1_or, n10, n01, dec1, dec2, ob_ok, oe_l, oe_r, gl_ok, gle_ok, gn_s, gv_ok, gv_none, on_none, onSome,u11, h3, u3, hkd, c]
    · left
      refine ⟨x, h1, h2, c, ?_⟩
      simp (disch := omega) only [gd_ok, cl_nI, nI_s, nI_add, nI_leI, nI_ltI, nI_eq, if_pos, if_neg, q0, q1, q2, q3, q4, q5, q6, q7, q8, q9, q10, CS.i_setI, CS.l_setI, CS.r_setI, CS.a_setI, CS.q_setI, CS.z_setI, CS.i_setL, CS.l_setL, CS.r_setL, CS.a_setL, CS.q_setL, CS.z_setL, CS.i_setR, CS.l_setR, CS.r_setR, CS.a_setR, CS.q_setR, CS.z_setR, CS.i_setA, CS.l_setA, CS.r_setA, CS.a_setA, CS.q_setA, CS.z_setA, CS.i_setQ, CS.l_setQ, CS.r_setQ, CS.a_setQ, CS.q_setQ, CS.z_setQ, CS.i_setF, CS.l_setF, CS.r_setF, CS.a_setF, CS.q_setF, CS.z_setF, CS.i_new, CS.l_new, CS.r_new, CS.a_new, CS.q_new, CS.z_new, Nat.reduceEqDiff, false_and, true_and, and_false, and_true, if_true, if_false, b2_0, b2_1, b2_nn, n0_or, n1_or, n10, n01, dec1, dec2, ob_ok, oe_l, oe_r, gl_ok, gle_ok, gn_s, gv_ok, gv_none, on_none, onSome,u11, h3, u3, hkd]
  · right; right
    refine ⟨h1, ?_⟩
    simp (disch := omega) only [gd_ok, cl_nI, nI_s, nI_add, nI_leI, nI_ltI, nI_eq, if_pos, if_neg, q0, q1, q2, q3, q4, q5, q6, q7, q8, q9, q10, CS.i_setI, CS.l_setI, CS.r_setI, CS.a_setI, CS.q_setI, CS.z_setI, CS.i_setL, CS.l_setL, CS.r_setL, CS.a_setL, CS.q_setL, CS.z_setL, CS.i_setR, CS.l_setR, CS.r_setR, CS.a_setR, CS.q_setR, CS.z_setR, CS.i_setA, CS.l_setA, CS.r_setA, CS.a_setA, CS.q_setA, CS.z_setA, CS.i_setQ, CS.l_setQ, CS.r_setQ, CS.a_setQ, CS.q_setQ, CS.z_setQ, CS.i_setF, CS.l_setF, CS.r_setF, CS.a_setF, CS.q_setF, CS.z_setF, CS.i_new, CS.l_new, CS.r_new, CS.a_new, CS.q_new, CS.z_new, Nat.reduceEqDiff, false_and, true_and, and_false, and_true, if_true, if_false, b2_0, b2_1, b2_nn, n0_or, n1_or, n10, n01, dec1, dec2, ob_ok, oe_l, oe_r, gl_ok, gle_ok, gn_s, gv_ok, gv_none, on_none, onSome,u11, h2]
/-- an op on an element: candidates, make, place, PRED -/
theorem pS_onEl (hR : RS S A) (hA : AI A) (hr : r < 8) {s act : Nat} {num : Int64} {cf : Bool} (hs : s < A.n) (hsv : A.inV r s = true) (hss : A.sp s = s) (hkd : A.kd (A.obj s) ≠ 6) (hh : ∀ o, o < A.n → S.a 45 o = b2 (A.hidB r o)) (hact : act ≤ 10) (hn : A.n < 4000) {Lx Os : List Nat} :
    ∃ S1 S2 S3, m_relementCandidates S (nI r) (nI (A.oi (A.obj s))) (nI (A.id s)) = some S1 ∧ m_rmake S1 (nI r) (nI (A.oi (A.obj s))) (nI act) num = some (S2, nI A.n) ∧ m_rfollows (S2.setA 10 (upd (S2.a 10) A.n (nI (A.id s)))) (nI A.n) (b2 cf) = some S3 ∧ RS S3 (A.mk r (A.obj s) act num 0 none s [] ((A.cd r s).reverse.filter (fun c => !cf || decide (A.act c = 5))) (A.id s) Lx Os) ∧ frA S S3 := by
  obtain ⟨g, c1, c2⟩ := pS_elCand hR hA hr hs hsv hss hkd hh
  have hR1 : RS ((S.setA 46 g).setI 47 (nI (A.cd r s).length)) A := (hR.setA rfl).setI rfl
  obtain ⟨S2, m1, m2, m3, m4, m5, m6⟩ := pS_make hR1 hA hr (x := A.obj s) (fun m hm => by have := (hA.2.2.1.2.2.2.1 s m hs hm).1; omega) hact hn (num := num) (par := none) (s := s) (Lx := Lx) (Os := Os)
  have hR2 := RS_pl (v := A.id s) m2
  obtain ⟨t, pa, t1, t2, _⟩ := hR.2.2.2.1
  have hcl := cd_len hA (r := r) (s := s)
  obtain ⟨f3, g3, v3, n1, n2⟩ := pS_follows (cf := cf) (cs := A.cd r s) hR2 hn (t := t) (by rw [MS.i_setA, m3 25 (by decide)]; exact t1) (by rw [MS.a_setA, if_neg (by decide), m6]; exact t1) t2 (by
    intro i hi
    rw [MS.a_setA, if_neg (by decide), m4 46 (mkA_not (by omega))]
    exact c2 i hi) (by rw [MS.i_setA, m3 47 (by decide)]; rfl) (fun c hc => ((cd_mem hA).mp hc).1) hcl (fun c hc => (hA.2.2.1.1 c ((cd_mem hA).mp hc).1).2.2.2.2.1)
  refine ⟨_, S2, _, c1, m1, n1, n2, ?_, ?_, ?_⟩
  · intro j a1 a2 a3 a4
    rw [MS.i_setI, if_neg a2, MS.i_setA, MS.i_setA, MS.i_setA, m3 j a1, MS.i_setI, if_neg a4, MS.i_setA]
  · intro j hj
    rw [MS.a_setI, MS.a_setA, if_neg (by omega), MS.a_setA, if_neg (by omega), MS.a_setA, if_neg (by omega), m4 j (mkA_not (by omega)), MS.a_setI, MS.a_setA, if_neg (by omega)]
  · exact m5
theorem stvL {act : Nat} {st : List Nat} (h : st.length ≤ 8192) : (stv act st).length ≤ 8192 := by
  unfold stv
  split
  · exact h
  · simp
theorem cJ_strLen (G : RC N C A rd) {act j : Nat} {st : List Nat} (h : RW C j st.length) (hact : act ≤ 8) : m_cJT_stringLength N C (nI act) j = some (C, nI (stv act st).length) := by
  obtain ⟨u0, u1, u2, u3, u4, u5, u6, u7, u8, u9, u10, u11, u12, u13, u14, u15, u16, u17, u18⟩ := G.nn
  have hj := h.1
  unfold m_cJT_stringLength m_cJT_stringLength_J0 m_cJT_stringLength_J13 stv
  simp (disch := omega) only [gd_ok, cl_nI, nI_s, nI_add, nI_leI, nI_ltI, nI_eq, if_pos, if_neg, q0, q1, q2, q3, q4, q5, q6, q7, q8, q9, q10, CS.i_setI, CS.l_setI, CS.r_setI, CS.a_setI, CS.q_setI, CS.z_setI, CS.i_setL, CS.l_setL, CS.r_setL, CS.a_setL, CS.q_setL, CS.z_setL, CS.i_setR, CS.l_setR, CS.r_setR, CS.a_setR, CS.q_setR, CS.z_setR, CS.i_setA, CS.l_setA, CS.r_setA, CS.a_setA, CS.q_setA, CS.z_setA, CS.i_setQ, CS.l_setQ, CS.r_setQ, CS.a_setQ, CS.q_setQ, CS.z_setQ, CS.i_setF, CS.l_setF, CS.r_setF, CS.a_setF, CS.q_setF, CS.z_setF, CS.i_new, CS.l_new, CS.r_new, CS.a_new, CS.q_new, CS.z_new, Nat.reduceEqDiff, false_and, true_and, and_false, and_true, if_true, if_false, b2_0, b2_1, b2_nn, n0_or, n1_or, n10, n01, dec1, dec2, ob_ok, oe_l, oe_r, gl_ok, gle_ok, gn_s, gv_ok, gv_none, on_none, onSome,u5, h.2.2.1]
  by_cases h4 : act = 4
  · rw [if_pos h4, if_pos h4]
  · rw [if_neg h4, if_neg h4]; rfl
theorem cJ_needSpot {o : Option Nat} : m_cJT_needSpot N 0 C o = some (if o = none then .inr (C, 3) else .inl C) := by
  unfold m_cJT_needSpot m_cJT_needSpot_J0
  cases o with
  | none => simp [on_none]
  | some j => simp [onSome]
/-- sort and string of put and insert, as the reference asks -/
theorem val0 {act : Nat} {S1 : MS} {β : Type} {X Y : β} (hact : act ≤ 8) (ha : a ≤ 2) (hok : a = (if act = 4 then 1 else 0) ∧ (act = 4 → bf.length ≤ 1024)) : (if act = 4 then (if a = 1 then (if bf.length ≤ 1024 then X else Y) else Y) else (if a = 0 then X else Y)) = X := by
  by_cases h4 : act = 4
  · rw [if_pos h4] at hok ⊢
    rw [if_pos hok.1, if_pos (hok.2 h4)]
  · rw [if_neg h4] at hok ⊢
    rw [if_pos hok.1]
theorem val1 {act : Nat} {β : Type} {X Y : β} (hok : ¬ (a = (if act = 4 then 1 else 0) ∧ (act = 4 → bf.length ≤ 1024))) : (if act = 4 then (if a = 1 then (if bf.length ≤ 1024 then X else Y) else Y) else (if a = 0 then X else Y)) = Y := by
  by_cases h4 : act = 4
  · simp only [h4, if_true, true_implies] at hok ⊢
    by_cases h1 : a = 1
    · rw [if_pos h1, if_neg (fun h => hok ⟨h1, h⟩)]
    · rw [if_neg h1]
  · simp only [h4, if_false, false_implies, and_true] at hok ⊢
    rw [if_neg hok]
set_option maxHeartbeats 4000000 in
theorem call_put (hI : INV S N C A rd) (hrd : rd + 60000 < 2 ^ 30) (x1 x2 x3 x4 : Int32) (x5 : Int64) : ALIKE [(1, 1), (2, 2), (3, 3), (4, 4)] A rd N (m_cJT_put N 0 C x1 x2 x3 x4 x5) (m_rput S x1 x2 x3 x4 x5) := by
  obtain ⟨hR, G, hA, bi, bf, bs, bo, ji, jf, js, a, hio⟩ := hI
  obtain ⟨u0, u1, u2, u3, u4, u5, u6, u7, u8, u9, u10, u11, u12, u13, u14, u15, u16, u17, u18⟩ := G.nn
  obtain ⟨s1, s2, s3, s4, s5, s6, s7, s8, s9, s10, s11, s12, s13, s14, s15, s16, s17, s18, s19, s20, s21⟩ := G.st
  have hnn := hA.1.1
  have hio0 := hio
  obtain ⟨⟨a1, a2, a3, a4, a5, a6, a7⟩, _, ⟨c1, c2, c3, c4, c5⟩, ⟨d1, d2, d3, d4, d5⟩, _, ⟨f1, f2, f3⟩, _⟩ := hio0
  have htk := pS_taken f1
  have htc := cJ_take u11 f2
  have hR1 : RS (S.setI 7 (nI 0)) A := hR.setI rfl
  have G1 : RC N (C.setI 11 11 0 (nI 0)) A rd := RC_take G
  have hio1 := hio.take
  have e5 : (S.setI 7 (nI 0)).i 5 = nI bf.length := c3
  generalize S.setI 7 (nI 0) = S1 at htk hR1 hio1 e5
  generalize C.setI 11 11 0 (nI 0) = C1 at htc G1 hio1
  unfold m_cJT_put m_cJT_put_J0 m_rput m_rput_J0
  rcases rep_or x1 with hx1 | ⟨r, hr, rfl⟩
  · refine alikeT (t := 1) (k := 1) (C' := C1) (S1 := S1) (v := nI 0) ?_ ?_ rfl hR1 G1 hA hio1 (Nat.le_refl _) (by omega)
    · simp (disch := omega) only [gd_ok, cl_nI, nI_s, nI_add, nI_leI, nI_ltI, nI_eq, if_pos, if_neg, q0, q1, q2, q3, q4, q5, q6, q7, q8, q9, q10, CS.i_setI, CS.l_setI, CS.r_setI, CS.a_setI, CS.q_setI, CS.z_setI, CS.i_setL, CS.l_setL, CS.r_setL, CS.a_setL, CS.q_setL, CS.z_setL, CS.i_setR, CS.l_setR, CS.r_setR, CS.a_setR, CS.q_setR, CS.z_setR, CS.i_setA, CS.l_setA, CS.r_setA, CS.a_setA, CS.q_setA, CS.z_setA, CS.i_setQ, CS.l_setQ, CS.r_setQ, CS.a_setQ, CS.q_setQ, CS.z_setQ, CS.i_setF, CS.l_setF, CS.r_setF, CS.a_setF, CS.q_setF, CS.z_setF, CS.i_new, CS.l_new, CS.r_new, CS.a_new, CS.q_new, CS.z_new, Nat.reduceEqDiff, false_and, true_and, and_false, and_true, if_true, if_false, b2_0, b2_1, b2_nn, n0_or, n1_or, n10, n01, dec1, dec2, ob_ok, oe_l, oe_r, gl_ok, gle_ok, gn_s, gv_ok, gv_none, on_none, onSome,u11, htc, cJ_shownN hx1]
    · unfold m_rput_J57
      simp (disch := omega) only [gd_ok, cl_nI, nI_s, nI_add, nI_leI, nI_ltI, nI_eq, if_pos, if_neg, q0, q1, q2, q3, q4, q5, q6, q7, q8, q9, q10, MS.i_setI, MS.a_setI, MS.n_setI, MS.i_setA, MS.a_setA, MS.n_setA, MS.i_setN, MS.a_setN, MS.n_setN, ↓reduceIte, Nat.reduceEqDiff, b2_0, b2_1, b2_nn, n0_or, n1_or, n10, n01, dec1, dec2, ob_ok, oe_l, oe_r,htk, pS_isN hx1, pS_no]
  · obtain ⟨C2, hsh, G2, hv2, hfr2⟩ := cJ_shown G1 hA hr
    have hio2 := hio1.fr frS.refl hfr2
    rcases sort_or x4 with hx4 | ⟨act, hact, rfl⟩
    · refine alikeT (t := 1) (k := 1) (C' := C2) (S1 := S1) (v := nI 0) ?_ ?_ rfl hR1 G2 hA hio2 (Nat.le_refl _) (by omega)
      · simp (disch := omega) only [gd_ok, cl_nI, nI_s, nI_add, nI_leI, nI_ltI, nI_eq, if_pos, if_neg, q0, q1, q2, q3, q4, q5, q6, q7, q8, q9, q10, CS.i_setI, CS.l_setI, CS.r_setI, CS.a_setI, CS.q_setI, CS.z_setI, CS.i_setL, CS.l_setL, CS.r_setL, CS.a_setL, CS.q_setL, CS.z_setL, CS.i_setR, CS.l_setR, CS.r_setR, CS.a_setR, CS.q_setR, CS.z_setR, CS.i_setA, CS.l_setA, CS.r_setA, CS.a_setA, CS.q_setA, CS.z_setA, CS.i_setQ, CS.l_setQ, CS.r_setQ, CS.a_setQ, CS.q_setQ, CS.z_setQ, CS.i_setF, CS.l_setF, CS.r_setF, CS.a_setF, CS.q_setF, CS.z_setF, CS.i_new, CS.l_new, CS.r_new, CS.a_new, CS.q_new, CS.z_new, Nat.reduceEqDiff, false_and, true_and, and_false, and_true, if_true, if_false, b2_0, b2_1, b2_nn, n0_or, n1_or, n10, n01, dec1, dec2, ob_ok, oe_l, oe_r, gl_ok, gle_ok, gn_s, gv_ok, gv_none, on_none, onSome,u11, htc, hsh, cJ_needValueN hx4]
      · unfold m_rput_J57
        simp (disch := omega) only [gd_ok, cl_nI, nI_s, nI_add, nI_leI, nI_ltI, nI_eq, if_pos, if_neg, q0, q1, q2, q3, q4, q5, q6, q7, q8, q9, q10, MS.i_setI, MS.a_setI, MS.n_setI, MS.i_setA, MS.a_setA, MS.n_setA, MS.i_setN, MS.a_setN, MS.n_setN, ↓reduceIte, Nat.reduceEqDiff, b2_0, b2_1, b2_nn, n0_or, n1_or, n10, n01, dec1, dec2, ob_ok, oe_l, oe_r,htk, pS_isR hr, pS_no]
        by_cases c : x4 < nI 0
        · rw [if_pos c]
        · rw [if_neg c, if_pos (hx4.resolve_left c)]
    · have hnv := cJ_needValue G2 hio2 hact f3 (show 0 ≤ 1 by omega)
      simp only [Nat.zero_add, if_true] at hnv
      have hS0 : (ob (m_rtaken S) (fun o_1 => ob (m_risReplica o_1.1 (nI r)) (fun o_3 => (if o_3.2 = 0 then m_rput_J57 o_3.1 else (if nI act < 0 then m_rput_J57 o_3.1 else (if 8 < nI act then m_rput_J57 o_3.1 else (if nI act = 4 then m_rput_J38 o_3.1 (nI r) x2 x3 (nI act) x5 1 o_1.2 else m_rput_J38 o_3.1 (nI r) x2 x3 (nI act) x5 0 o_1.2))))))) = (if act = 4 then (if a = 1 then (if bf.length ≤ 1024 then m_rput_J63 S1 (nI r) x2 x3 (nI act) x5 else m_rput_J57 S1) else m_rput_J57 S1) else (if a = 0 then m_rput_J63 S1 (nI r) x2 x3 (nI act) x5 else m_rput_J57 S1)) := by
        unfold m_rput_J38
        simp (disch := omega) only [gd_ok, cl_nI, nI_s, nI_add, nI_leI, nI_ltI, nI_eq, if_pos, if_neg, q0, q1, q2, q3, q4, q5, q6, q7, q8, q9, q10, MS.i_setI, MS.a_setI, MS.n_setI, MS.i_setA, MS.a_setA, MS.n_setA, MS.i_setN, MS.a_setN, MS.n_setN, ↓reduceIte, Nat.reduceEqDiff, b2_0, b2_1, b2_nn, n0_or, n1_or, n10, n01, dec1, dec2, ob_ok, oe_l, oe_r,htk, pS_isR hr, e5, show (1024 : Int32) = nI 1024 from by decide]
      rw [hS0]
      by_cases hok : a = (if act = 4 then 1 else 0) ∧ (act = 4 → bf.length ≤ 1024)
      · rw [if_pos hok] at hnv
        rw [val0 (S1 := S1) hact f3 hok]
        clear hS0
        unfold m_rput_J63
        rcases cJ_listAt G2 hA hv2 x2 with ⟨x, hx, rfl, hkd, hmp⟩ | ⟨x, hx, rfl, hkd, hmp⟩ | ⟨hno, hmp⟩
        · have hkn := kind_x hR1 hA hr hx
          have h68 := kd_le8 hx
          have hxl := oV_ltn hx
          have hox := ox_lt hxl
          have hln := L_len hA (x := x)
          have e3' : C2.r 11 2 0 = some 0 := G2.st.2.2.1
          obtain ⟨C3, hV3, hsp⟩ := cV_spotAt G2 hA hv2 hxl (by omega) x3
          obtain ⟨rd3, r31, r32, G3⟩ := hV3.toRC G2
          have hv3 := hV3.toVC hv2
          have hio3 := hio2.fr frS.refl hV3.fr
          obtain ⟨S2, hLS, hat⟩ := pS_at hR1 hA hr hx hkd x3
          have hR2 := hLS.RS hR1
          have hio4 := hio3.fr hLS.frS frC.refl
          have e39 := hLS.a39
          have e5' : S2.i 5 = nI bf.length := by rw [hLS.frS.1 5 (by simp)]; exact e5
          rcases hsp with ⟨k, s, rfl, hk31, hfs, hsp⟩ | ⟨hnos, hsp⟩
          · -- the element is there
            have hat2 : ∃ e, e < A.n ∧ (A.el r x)[e]? = some s ∧ m_rat S1 (nI r) (nI (A.oi x)) (nI k) = some (S2, nI e) := by
              rcases hat with ⟨k', s', e, hke, hk31', hfs', hen, hee, hat⟩ | ⟨hnos', hat⟩
              · have hkk : k = k' := (nI_eq hk31 hk31').mp hke
                subst hkk
                rw [hfs] at hfs'
                obtain rfl : s = s' := Option.some.inj hfs'
                exact ⟨e, hen, hee, hat⟩
              · exact absurd rfl (hnos' k (by
                  rcases Nat.lt_or_ge k (A.fl r x).length with h | h
                  · exact h
                  · rw [List.getElem?_eq_none h] at hfs; cases hfs))
            clear hat
            obtain ⟨e, hen, hee, hat⟩ := hat2
            have hsfl : s ∈ A.fl r x := List.mem_of_getElem? hfs
            unfold AS.fl at hsfl
            rw [List.mem_filter] at hsfl
            have hsL := L_ins hA hkd hsfl.1
            have hsv := (cd_inV hA (by rw [hsL.2.1]; exact hkd) (flB_iff.mp hsfl.2)).2
            have hsj := (G3.ln.1 s hsL.1 hsL.2.2.1).1
            have hna := cJ_needAll G3 hr
            have hllt := lk_lt hR2 hA hr
            have hio5 := hio4
            obtain ⟨_, _, ⟨w1, w2, _, w4, _⟩, _⟩ := hio5
            have e9 : C3.r 11 9 0 = some jf := hio4.1.2.1
            have hjf := w1.1
            have h48 : S2.a 48 e = nI s := by
              have h5 := hLS.get.2.1
              have h6 : e < (A.el r x).length := by
                rcases Nat.lt_or_ge e (A.el r x).length with h | h
                · exact h
                · rw [List.getElem?_eq_none h] at hee; cases hee
              rw [h5 e h6]
              rw [List.getElem?_eq_getElem h6] at hee
              rw [Option.some.inj hee]
            have hs8 : S2.a 8 s = nI (A.id s) := (hR2.2.1 s hsL.1).1
            have hobj : A.obj s = x := hsL.2.1
            by_cases hl : A.lk r = none
            · rw [if_pos hl] at hna
              have hsl := cJ_strLen G3 (act := act) w1 hact
              have hsl8 := stvL (act := act) c5
              have hroom := cJ_needRoom G3 hA (x := 1) (y := (stv act bf).length) (by omega) (by omega)
              have hfull := pS_full hR2 hA (x := 1) (y := (stv act bf).length) (by omega) (by omega)
              have hS2 : m_rput_J100 S2 (nI r) (nI (A.oi x)) (nI act) x5 (nI e) = m_rput_J144 S2 (nI r) (nI (A.oi x)) (nI act) x5 (nI e) (nI (stv act bf).length) (nI 1) := by
                unfold m_rput_J100 stv
                simp (disch := omega) only [gd_ok, cl_nI, nI_s, nI_add, nI_leI, nI_ltI, nI_eq, if_pos, if_neg, q0, q1, q2, q3, q4, q5, q6, q7, q8, q9, q10, MS.i_setI, MS.a_setI, MS.n_setI, MS.i_setA, MS.a_setA, MS.n_setA, MS.i_setN, MS.a_setN, MS.n_setN, ↓reduceIte, Nat.reduceEqDiff, b2_0, b2_1, b2_nn, n0_or, n1_or, n10, n01, dec1, dec2, ob_ok, oe_l, oe_r,hllt, hl, e5']
                by_cases h4 : act = 4
                · rw [if_pos h4, if_pos h4]
                · rw [if_neg h4, if_neg h4]; rfl
              by_cases hrm : 4000 < A.n + 1 ∨ 24576 < A.kn + (stv act bf).length
              · rw [if_pos hrm] at hroom
                refine alikeT (t := 4) (k := 4) (C' := C3) (S1 := S2) (v := nI 0) ?_ ?_ rfl hR2 G3 hA hio4 r31 (by omega)
                · simp (disch := omega) only [gd_ok, cl_nI, nI_s, nI_add, nI_leI, nI_ltI, nI_eq, if_pos, if_neg, q0, q1, q2, q3, q4, q5, q6, q7, q8, q9, q10, CS.i_setI, CS.l_setI, CS.r_setI, CS.a_setI, CS.q_setI, CS.z_setI, CS.i_setL, CS.l_setL, CS.r_setL, CS.a_setL, CS.q_setL, CS.z_setL, CS.i_setR, CS.l_setR, CS.r_setR, CS.a_setR, CS.q_setR, CS.z_setR, CS.i_setA, CS.l_setA, CS.r_setA, CS.a_setA, CS.q_setA, CS.z_setA, CS.i_setQ, CS.l_setQ, CS.r_setQ, CS.a_setQ, CS.q_setQ, CS.z_setQ, CS.i_setF, CS.l_setF, CS.r_setF, CS.a_setF, CS.q_setF, CS.z_setF, CS.i_new, CS.l_new, CS.r_new, CS.a_new, CS.q_new, CS.z_new, Nat.reduceEqDiff, false_and, true_and, and_false, and_true, if_true, if_false, b2_0, b2_1, b2_nn, n0_or, n1_or, n10, n01, dec1, dec2, ob_ok, oe_l, oe_r, gl_ok, gle_ok, gn_s, gv_ok, gv_none, on_none, onSome,u11, htc, hsh, hnv, hmp, u3, u10, e3', hsp, cJ_needSpot, reduceCtorEq, hna, u4, e9, u5, hsl, hroom]
                · simp (disch := omega) only [gd_ok, cl_nI, nI_s, nI_add, nI_leI, nI_ltI, nI_eq, if_pos, if_neg, q0, q1, q2, q3, q4, q5, q6, q7, q8, q9, q10, MS.i_setI, MS.a_setI, MS.n_setI, MS.i_setA, MS.a_setA, MS.n_setA, MS.i_setN, MS.a_setN, MS.n_setN, ↓reduceIte, Nat.reduceEqDiff, b2_0, b2_1, b2_nn, n0_or, n1_or, n10, n01, dec1, dec2, ob_ok, oe_l, oe_r,hkn, hat, hS2]
                  unfold m_rput_J144
                  rw [hfull, decide_eq_true hrm]
                  simp (disch := omega) only [gd_ok, cl_nI, nI_s, nI_add, nI_leI, nI_ltI, nI_eq, if_pos, if_neg, q0, q1, q2, q3, q4, q5, q6, q7, q8, q9, q10, MS.i_setI, MS.a_setI, MS.n_setI, MS.i_setA, MS.a_setA, MS.n_setA, MS.i_setN, MS.a_setN, MS.n_setN, ↓reduceIte, Nat.reduceEqDiff, b2_0, b2_1, b2_nn, n0_or, n1_or, n10, n01, dec1, dec2, ob_ok, oe_l, oe_r,pS_no]
                  rw [if_neg (by simp)]
              · rw [if_neg hrm] at hroom
                rw [decide_eq_false hrm] at hfull
                simp only [not_or, Nat.not_lt] at hrm
                have hR3 : RS (S2.setI 0 (nI 0)) A := hR2.setI rfl
                have hk0 : A.key s = [] := (key_nil hA hsL.1).mpr (by rw [hobj]; exact hkd)
                obtain ⟨N4, C4, c, z, k1, k2, k3, G4, hA4, hv4, hfr4⟩ := cJ_writeOn (num := x5) (act := act) (s := s) (x := x) G3 hA hv3 hr hl (by omega) (by omega) hsL.1 hsL.2.2.1 hobj hx (by rw [hk0]; exact hA.1.2.2.1) (by omega) (fun _ => hsv)
                obtain ⟨S3, S4, S5, m1, m2, m3, m4, m5⟩ := pS_onEl (num := x5) (act := act) (cf := false) (s := s) (Lx := A.L x) (Os := insO A.id (8 * (A.tp r + 1) + r) A.n (A.O s)) hR3 hA hr hsL.1 hsv hsL.2.2.1 (by rw [hobj]; exact hkd) (fun o ho => by rw [MS.a_setI]; exact hLS.get.2.2.1 o ho) (by omega) (by omega)
                rw [hobj] at m1 m2 m4
                have hpre : (A.cd r s).reverse.filter (fun c => !decide (act = 10) || decide (A.act c = 5)) = (A.cd r s).reverse.filter (fun c => !false || decide (A.act c = 5)) := by
                  congr 1
                  funext c
                  have : ¬ act = 10 := by omega
                  simp [this]
                rw [hk0, hpre, if_neg hkd] at G4 hA4 hv4
                generalize hB : A.mk r x act x5 0 none s [] ((A.cd r s).reverse.filter (fun c => !false || decide (A.act c = 5))) (A.id s) (A.L x) (insO A.id (8 * (A.tp r + 1) + r) A.n (A.O s)) = B at G4 hA4 hv4 m4
                have hBn : B.n = A.n + 1 := by rw [← hB]; rfl
                have hBm : B.m = A.m := by rw [← hB]; rfl
                have hBa : B.act A.n = act := by rw [← hB, mk_act, if_pos rfl]
                have hBs : B.str A.n = [] := by rw [← hB, mk_str, if_pos rfl]
                have hBk : B.ba A.n + (B.key A.n).length = B.kn := by rw [← hB, mk_ba, mk_key, if_pos rfl, if_pos rfl]; rfl
                have hBkn : B.kn = A.kn := by rw [← hB]; rfl
                have hBi : B.id A.n = 8 * (A.tp r + 1) + r := by rw [← hB, mk_id, if_pos rfl]
                obtain ⟨C5, q1', G5, hfr5⟩ := giveStr G4 hBn hBs hBk (by rw [hBa]; omega) (j := jf) (st := bf) (RW_fr hfr4 (by omega) w1) (RB_fr hfr4 (by omega) w2) (by
                  rw [hBa, hBkn]
                  intro h
                  unfold stv at hrm
                  rw [if_pos h] at hrm
                  omega)
                have e55 : S5.i 5 = nI bf.length := by
                  rw [m5.1 5 (by decide) (by decide) (by decide) (by decide), MS.i_setI, if_neg (by decide)]
                  exact e5'
                obtain ⟨S6, v1, v2, v4, v5, v6⟩ := pS_value (n := A.n) (b := 2) (p := 0) (st := bf) (q := nI bf.length) (p' := nI 0) (by rw [hBn]; omega) m4 hBn hBs hBk (by rw [hBa]; omega) (by simp) (by
                  rw [hBa, hBkn]
                  intro h
                  refine ⟨byts_fr w4 ?_, by omega, ?_⟩
                  · rw [m5.2.1 2 (by omega), MS.a_setI]
                  · unfold stv at hrm
                    rw [if_pos h] at hrm
                    omega) (fun _ => rfl) (fun _ => rfl)
                rw [hBa] at G5 v1 v2
                have hid : C5.i 3 0 (A.n + 1) = nI (8 * (A.tp r + 1) + r) := by
                  have h := (G5.op A.n (show A.n < B.n by omega)).1
                  rw [show (B.gs (stv act bf)).id A.n = B.id A.n from rfl, hBi] at h
                  exact h
                have hid2 : S6.a 8 A.n = nI (8 * (A.tp r + 1) + r) := by
                  have h := (v2.2.1 A.n (show A.n < B.n by omega)).1
                  rw [show (B.gs (stv act bf)).id A.n = B.id A.n from rfl, hBi] at h
                  exact h
                have e9' : C4.r 11 9 0 = some jf := by rw [hfr4.2.1]; exact e9
                obtain ⟨t0, t1, t2, t3, t4, t5, t6, t7, t8, t9, t10, t11, t12, t13, t14, t15, t16, t17, t18⟩ := G4.nn
                rw [hBn] at t3
                have h0 : S6.i 0 = nI 0 := by rw [v4 0 (by decide), m5.1 0 (by decide) (by decide) (by decide) (by decide), MS.i_setI, if_pos rfl]
                have hfrS : frS S2 S6 := ((frS_setI (k := 0) (v := nI 0) (by decide)).trans m5.toS).trans ⟨fun j hj => v4 j (by omega), fun k hk => v5 k (by omega) (by omega) (by omega)⟩
                refine Or.inl ⟨N4, C5, nI (8 * (A.tp r + 1) + r), c, z, S6, B.gs (stv act bf), rd3 + 1, ?_, ?_, h0, ⟨v2, G5, gs_AI hA4 (by rw [hBkn]; omega), bi, bf, bs, bo, ji, jf, js, 0, (hio4.fr hfrS (hfr4.trans hfr5))⟩, ?_, ?_, by omega, by omega, ?_, ?_⟩
                · simp (disch := omega) only [gd_ok, cl_nI, nI_s, nI_add, nI_leI, nI_ltI, nI_eq, if_pos, if_neg, q0, q1, q2, q3, q4, q5, q6, q7, q8, q9, q10, CS.i_setI, CS.l_setI, CS.r_setI, CS.a_setI, CS.q_setI, CS.z_setI, CS.i_setL, CS.l_setL, CS.r_setL, CS.a_setL, CS.q_setL, CS.z_setL, CS.i_setR, CS.l_setR, CS.r_setR, CS.a_setR, CS.q_setR, CS.z_setR, CS.i_setA, CS.l_setA, CS.r_setA, CS.a_setA, CS.q_setA, CS.z_setA, CS.i_setQ, CS.l_setQ, CS.r_setQ, CS.a_setQ, CS.q_setQ, CS.z_setQ, CS.i_setF, CS.l_setF, CS.r_setF, CS.a_setF, CS.q_setF, CS.z_setF, CS.i_new, CS.l_new, CS.r_new, CS.a_new, CS.q_new, CS.z_new, Nat.reduceEqDiff, false_and, true_and, and_false, and_true, if_true, if_false, b2_0, b2_1, b2_nn, n0_or, n1_or, n10, n01, dec1, dec2, ob_ok, oe_l, oe_r, gl_ok, gle_ok, gn_s, gv_ok, gv_none, on_none, onSome,u11, htc, hsh, hnv, hmp, u3, u10, u7, e3', hsp, cJ_needSpot, reduceCtorEq, hna, u4, e9, u5, hsl, hroom, k1, oq_ok, e9', t5, t3, q1', al_ok, hid]
                  rw [Nat.zero_add, Nat.zero_add]
                · simp (disch := omega) only [gd_ok, cl_nI, nI_s, nI_add, nI_leI, nI_ltI, nI_eq, if_pos, if_neg, q0, q1, q2, q3, q4, q5, q6, q7, q8, q9, q10, MS.i_setI, MS.a_setI, MS.n_setI, MS.i_setA, MS.a_setA, MS.n_setA, MS.i_setN, MS.a_setN, MS.n_setN, ↓reduceIte, Nat.reduceEqDiff, b2_0, b2_1, b2_nn, n0_or, n1_or, n10, n01, dec1, dec2, ob_ok, oe_l, oe_r,hkn, hat, hS2]
                  unfold m_rput_J144
                  rw [hfull]
                  have m3' : m_rfollows (S4.setA 10 (upd (S4.a 10) A.n (nI (A.id s)))) (nI A.n) (nI 0) = some S5 := m3
                  simp (disch := omega) only [gd_ok, cl_nI, nI_s, nI_add, nI_leI, nI_ltI, nI_eq, if_pos, if_neg, q0, q1, q2, q3, q4, q5, q6, q7, q8, q9, q10, MS.i_setI, MS.a_setI, MS.n_setI, MS.i_setA, MS.a_setA, MS.n_setA, MS.i_setN, MS.a_setN, MS.n_setN, ↓reduceIte, Nat.reduceEqDiff, b2_0, b2_1, b2_nn, n0_or, n1_or, n10, n01, dec1, dec2, ob_ok, oe_l, oe_r,h48, hs8, m1, m2, m3', e55, v1, hid2]
                · show A.n ≤ B.n
                  omega
                · show A.m ≤ B.m
                  omega
                · show c ≤ 2 * (B.n - A.n) + 3 * (B.m - A.m)
                  omega
                · show z ≤ 23 * (B.n - A.n) + 40 * (B.m - A.m)
                  omega
            · rw [if_neg hl] at hna
              refine alikeT (t := 2) (k := 2) (C' := C3) (S1 := S2) (v := nI 0) ?_ ?_ rfl hR2 G3 hA hio4 r31 (by omega)
              · simp (disch := omega) only [gd_ok, cl_nI, nI_s, nI_add, nI_leI, nI_ltI, nI_eq, if_pos, if_neg, q0, q1, q2, q3, q4, q5, q6, q7, q8, q9, q10, CS.i_setI, CS.l_setI, CS.r_setI, CS.a_setI, CS.q_setI, CS.z_setI, CS.i_setL, CS.l_setL, CS.r_setL, CS.a_setL, CS.q_setL, CS.z_setL, CS.i_setR, CS.l_setR, CS.r_setR, CS.a_setR, CS.q_setR, CS.z_setR, CS.i_setA, CS.l_setA, CS.r_setA, CS.a_setA, CS.q_setA, CS.z_setA, CS.i_setQ, CS.l_setQ, CS.r_setQ, CS.a_setQ, CS.q_setQ, CS.z_setQ, CS.i_setF, CS.l_setF, CS.r_setF, CS.a_setF, CS.q_setF, CS.z_setF, CS.i_new, CS.l_new, CS.r_new, CS.a_new, CS.q_new, CS.z_new, Nat.reduceEqDiff, false_and, true_and, and_false, and_true, if_true, if_false, b2_0, b2_1, b2_nn, n0_or, n1_or, n10, n01, dec1, dec2, ob_ok, oe_l, oe_r, gl_ok, gle_ok, gn_s, gv_ok, gv_none, on_none, onSome,u11, htc, hsh, hnv, hmp, u3, u10, e3', hsp, cJ_needSpot, reduceCtorEq, hna, u4]
              · unfold m_rput_J100
                simp (disch := omega) only [gd_ok, cl_nI, nI_s, nI_add, nI_leI, nI_ltI, nI_eq, if_pos, if_neg, q0, q1, q2, q3, q4, q5, q6, q7, q8, q9, q10, MS.i_setI, MS.a_setI, MS.n_setI, MS.i_setA, MS.a_setA, MS.n_setA, MS.i_setN, MS.a_setN, MS.n_setN, ↓reduceIte, Nat.reduceEqDiff, b2_0, b2_1, b2_nn, n0_or, n1_or, n10, n01, dec1, dec2, ob_ok, oe_l, oe_r,hkn, hat, hllt, hl, pS_no]
          · -- no element
            have hat' : m_rat S1 (nI r) (nI (A.oi x)) x3 = some (S2, -nI 1) := by
              rcases hat with ⟨k', s', e, hke, hk31', hfs', hen, hee, hat⟩ | ⟨hnos', hat⟩
              · exact absurd hke (hnos k' (by
                  rcases Nat.lt_or_ge k' (A.fl r x).length with h | h
                  · exact h
                  · rw [List.getElem?_eq_none h] at hfs'; cases hfs'))
              · exact hat
            refine alikeT (t := 3) (k := 3) (C' := C3) (S1 := S2) (v := nI 0) ?_ ?_ rfl hR2 G3 hA hio4 r31 (by omega)
            · simp (disch := omega) only [gd_ok, cl_nI, nI_s, nI_add, nI_leI, nI_ltI, nI_eq, if_pos, if_neg, q0, q1, q2, q3, q4, q5, q6, q7, q8, q9, q10, CS.i_setI, CS.l_setI, CS.r_setI, CS.a_setI, CS.q_setI, CS.z_setI, CS.i_setL, CS.l_setL, CS.r_setL, CS.a_setL, CS.q_setL, CS.z_setL, CS.i_setR, CS.l_setR, CS.r_setR, CS.a_setR, CS.q_setR, CS.z_setR, CS.i_setA, CS.l_setA, CS.r_setA, CS.a_setA, CS.q_setA, CS.z_setA, CS.i_setQ, CS.l_setQ, CS.r_setQ, CS.a_setQ, CS.q_setQ, CS.z_setQ, CS.i_setF, CS.l_setF, CS.r_setF, CS.a_setF, CS.q_setF, CS.z_setF, CS.i_new, CS.l_new, CS.r_new, CS.a_new, CS.q_new, CS.z_new, Nat.reduceEqDiff, false_and, true_and, and_false, and_true, if_true, if_false, b2_0, b2_1, b2_nn, n0_or, n1_or, n10, n01, dec1, dec2, ob_ok, oe_l, oe_r, gl_ok, gle_ok, gn_s, gv_ok, gv_none, on_none, onSome,u11, htc, hsh, hnv, hmp, u3, u10, e3', hsp, cJ_needSpot]
            · unfold m_rput_J100
              simp (disch := omega) only [gd_ok, cl_nI, nI_s, nI_add, nI_leI, nI_ltI, nI_eq, if_pos, if_neg, q0, q1, q2, q3, q4, q5, q6, q7, q8, q9, q10, MS.i_setI, MS.a_setI, MS.n_setI, MS.i_setA, MS.a_setA, MS.n_setA, MS.i_setN, MS.a_setN, MS.n_setN, ↓reduceIte, Nat.reduceEqDiff, b2_0, b2_1, b2_nn, n0_or, n1_or, n10, n01, dec1, dec2, ob_ok, oe_l, oe_r,hkn, hat', m1le, pS_no]
        · have hkn := kind_x hR1 hA hr hx
          refine alikeT (t := 1) (k := 1) (C' := C2) (S1 := S1) (v := nI 0) ?_ ?_ rfl hR1 G2 hA hio2 (Nat.le_refl _) (by omega)
          · simp (disch := omega) only [gd_ok, cl_nI, nI_s, nI_add, nI_leI, nI_ltI, nI_eq, if_pos, if_neg, q0, q1, q2, q3, q4, q5, q6, q7, q8, q9, q10, CS.i_setI, CS.l_setI, CS.r_setI, CS.a_setI, CS.q_setI, CS.z_setI, CS.i_setL, CS.l_setL, CS.r_setL, CS.a_setL, CS.q_setL, CS.z_setL, CS.i_setR, CS.l_setR, CS.r_setR, CS.a_setR, CS.q_setR, CS.z_setR, CS.i_setA, CS.l_setA, CS.r_setA, CS.a_setA, CS.q_setA, CS.z_setA, CS.i_setQ, CS.l_setQ, CS.r_setQ, CS.a_setQ, CS.q_setQ, CS.z_setQ, CS.i_setF, CS.l_setF, CS.r_setF, CS.a_setF, CS.q_setF, CS.z_setF, CS.i_new, CS.l_new, CS.r_new, CS.a_new, CS.q_new, CS.z_new, Nat.reduceEqDiff, false_and, true_and, and_false, and_true, if_true, if_false, b2_0, b2_1, b2_nn, n0_or, n1_or, n10, n01, dec1, dec2, ob_ok, oe_l, oe_r, gl_ok, gle_ok, gn_s, gv_ok, gv_none, on_none, onSome,u11, htc, hsh, hnv, hmp]
          · simp (disch := omega) only [gd_ok, cl_nI, nI_s, nI_add, nI_leI, nI_ltI, nI_eq, if_pos, if_neg, q0, q1, q2, q3, q4, q5, q6, q7, q8, q9, q10, MS.i_setI, MS.a_setI, MS.n_setI, MS.i_setA, MS.a_setA, MS.n_setA, MS.i_setN, MS.a_setN, MS.n_setN, ↓reduceIte, Nat.reduceEqDiff, b2_0, b2_1, b2_nn, n0_or, n1_or, n10, n01, dec1, dec2, ob_ok, oe_l, oe_r,hkn, hkd, pS_no]
        · have hkn := kind_n hR1 hA hr hno
          refine alikeT (t := 3) (k := 3) (C' := C2) (S1 := S1) (v := nI 0) ?_ ?_ rfl hR1 G2 hA hio2 (Nat.le_refl _) (by omega)
          · simp (disch := omega) only [gd_ok, cl_nI, nI_s, nI_add, nI_leI, nI_ltI, nI_eq, if_pos, if_neg, q0, q1, q2, q3, q4, q5, q6, q7, q8, q9, q10, CS.i_setI, CS.l_setI, CS.r_setI, CS.a_setI, CS.q_setI, CS.z_setI, CS.i_setL, CS.l_setL, CS.r_setL, CS.a_setL, CS.q_setL, CS.z_setL, CS.i_setR, CS.l_setR, CS.r_setR, CS.a_setR, CS.q_setR, CS.z_setR, CS.i_setA, CS.l_setA, CS.r_setA, CS.a_setA, CS.q_setA, CS.z_setA, CS.i_setQ, CS.l_setQ, CS.r_setQ, CS.a_setQ, CS.q_setQ, CS.z_setQ, CS.i_setF, CS.l_setF, CS.r_setF, CS.a_setF, CS.q_setF, CS.z_setF, CS.i_new, CS.l_new, CS.r_new, CS.a_new, CS.q_new, CS.z_new, Nat.reduceEqDiff, false_and, true_and, and_false, and_true, if_true, if_false, b2_0, b2_1, b2_nn, n0_or, n1_or, n10, n01, dec1, dec2, ob_ok, oe_l, oe_r, gl_ok, gle_ok, gn_s, gv_ok, gv_none, on_none, onSome,u11, htc, hsh, hnv, hmp]
          · unfold m_rput_J100
            simp (disch := omega) only [gd_ok, cl_nI, nI_s, nI_add, nI_leI, nI_ltI, nI_eq, if_pos, if_neg, q0, q1, q2, q3, q4, q5, q6, q7, q8, q9, q10, MS.i_setI, MS.a_setI, MS.n_setI, MS.i_setA, MS.a_setA, MS.n_setA, MS.i_setN, MS.a_setN, MS.n_setN, ↓reduceIte, Nat.reduceEqDiff, b2_0, b2_1, b2_nn, n0_or, n1_or, n10, n01, dec1, dec2, ob_ok, oe_l, oe_r,hkn, pS_no, m1le, show (-nI 1 = nI 6) ↔ False from by decide]
      · rw [if_neg hok] at hnv
        rw [val1 hok]
        refine alikeT (t := 1) (k := 1) (C' := C2) (S1 := S1) (v := nI 0) ?_ ?_ rfl hR1 G2 hA hio2 (Nat.le_refl _) (by omega)
        · simp (disch := omega) only [gd_ok, cl_nI, nI_s, nI_add, nI_leI, nI_ltI, nI_eq, if_pos, if_neg, q0, q1, q2, q3, q4, q5, q6, q7, q8, q9, q10, CS.i_setI, CS.l_setI, CS.r_setI, CS.a_setI, CS.q_setI, CS.z_setI, CS.i_setL, CS.l_setL, CS.r_setL, CS.a_setL, CS.q_setL, CS.z_setL, CS.i_setR, CS.l_setR, CS.r_setR, CS.a_setR, CS.q_setR, CS.z_setR, CS.i_setA, CS.l_setA, CS.r_setA, CS.a_setA, CS.q_setA, CS.z_setA, CS.i_setQ, CS.l_setQ, CS.r_setQ, CS.a_setQ, CS.q_setQ, CS.z_setQ, CS.i_setF, CS.l_setF, CS.r_setF, CS.a_setF, CS.q_setF, CS.z_setF, CS.i_new, CS.l_new, CS.r_new, CS.a_new, CS.q_new, CS.z_new, Nat.reduceEqDiff, false_and, true_and, and_false, and_true, if_true, if_false, b2_0, b2_1, b2_nn, n0_or, n1_or, n10, n01, dec1, dec2, ob_ok, oe_l, oe_r, gl_ok, gle_ok, gn_s, gv_ok, gv_none, on_none, onSome,u11, htc, hsh, hnv]
        · unfold m_rput_J57
          simp (disch := omega) only [gd_ok, cl_nI, nI_s, nI_add, nI_leI, nI_ltI, nI_eq, if_pos, if_neg, q0, q1, q2, q3, q4, q5, q6, q7, q8, q9, q10, MS.i_setI, MS.a_setI, MS.n_setI, MS.i_setA, MS.a_setA, MS.n_setA, MS.i_setN, MS.a_setN, MS.n_setN, ↓reduceIte, Nat.reduceEqDiff, b2_0, b2_1, b2_nn, n0_or, n1_or, n10, n01, dec1, dec2, ob_ok, oe_l, oe_r,pS_no]
end CPUT
