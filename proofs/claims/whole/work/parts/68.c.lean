/-! THE CLASS: the view. -/
section VW
variable {N : Nat → Nat} {C : CS} {A : AS} {r rd : Nat}
theorem RC.nn (G : RC N C A rd) : RC_N N A := G.1.1
theorem RC.st (G : RC N C A rd) : RC_st C := G.1.2.2.1
theorem RC.op (G : RC N C A rd) : RC_op C A := G.1.2.2.2.2.2.2.2.2.2.2.1
theorem RC.ln (G : RC N C A rd) : RC_ln C A := G.1.2.2.2.2.2.2.2.2.2.2.2
theorem RC.sz (G : RC N C A rd) : RC_sz C A.m := G.1.2.2.2.1
theorem RC.rp (G : RC N C A rd) : RC_rp C A := G.1.2.2.2.2.2.2.2.2.2.1
theorem RC.cg (G : RC N C A rd) : RC_cg C A := G.1.2.2.2.2.2.2.2.2.1
theorem RC.kp (G : RC N C A rd) : RC_kp C A := G.1.2.2.2.2.2.2.2.1
theorem RC.pr (G : RC N C A rd) : RC_pr N C A := G.1.2.2.2.2.2.1
theorem RC.idd (G : RC N C A rd) : RC_id C A := G.1.2.2.2.2.2.2.1
theorem RC.rt (G : RC N C A rd) : RC_rt C := G.1.2.2.2.2.1
theorem hv_le (hA : AI A) {q a : Nat} : A.hv q a ≤ 1000 := by
  have h1 := hA.2.1.2.2.2.2.2.1.1 q a
  have h2 := hA.2.2.2.2.2.2 a
  have h3 := cntTo_le (fun d => decide (A.ca d = a)) A.m
  have h4 := hA.1.2.1
  omega
theorem cl_le (hA : AI A) {c a : Nat} (hc : c < A.m) : A.cl c a ≤ 1000 := by
  have h1 := hA.2.1.2.2.2.2.2.1.2.1 c a hc
  have h2 := hv_le hA (q := a) (a := a)
  omega
theorem vw_le1 (hA : AI A) {q a : Nat} : A.vw q a ≤ 1001 := by
  unfold AS.vw
  cases hl : A.lk q with
  | none =>
    have := hv_le hA (q := q) (a := a)
    simp only
    split <;> omega
  | some c =>
    have := cl_le hA (c := c) (a := a) (hA.2.1.2.2.2.2.2.2.2.2.1 q c hl).1
    simp only
    omega
theorem cn_le (hA : AI A) {o : Nat} (ho : o < A.n) (hg : A.gone o = 0) : A.cn o ≤ 1001 := by
  have h1 := hA.2.2.1.2.2.1 o ho
  cases hc : A.chg o with
  | none =>
    rw [hc] at h1
    have := (h1 hg).1
    have := hv_le hA (q := A.own o) (a := A.own o)
    omega
  | some c =>
    rw [hc] at h1
    have h2 := h1.2.2.2.1
    have h3 := (hA.2.1.1 c h1.1).2.2.1
    have := hv_le hA (q := A.ca c) (a := A.ca c)
    omega
theorem and7 {x : Nat} (h : x < 2 ^ 31) : nI x &&& nI 7 = nI (x % 8) := pk_andN (by omega) 3 rfl
theorem cV_shows (G : RC N C A rd) (hA : AI A) (hv : VC C A r) {o : Nat} (ho : o < A.n) : m_cVw_shows N 0 C (o + 1) = some (C, b2 (A.inV r o)) := by
  obtain ⟨u0, u1, u2, u3, u4, u5, u6, u7, u8, u9, u10, u11, u12, u13, u14, u15, u16, u17, u18⟩ := G.nn
  obtain ⟨s1, s2, s3, s4, s5, s6, s7, s8, s9, s10, s11, s12, s13, s14, s15, s16, s17, s18, s19, s20, s21⟩ := G.st
  have hop := G.op o ho
  have hi := hA.2.2.1.1 o ho
  have hid := id_lt hA ho
  have hvl := vw_le1 hA (q := r) (a := A.own o)
  have hz := G.sz.2.2.2.2.2.2.2.2.2.2.2.2.2.1 8 (by omega)
  have hcl : (if A.gone o = 0 then A.cn o else 1002) ≤ 1002 := by
    split
    · rename_i hg; have := cn_le hA ho hg; omega
    · omega
  unfold m_cVw_shows m_cVw_shows_J0 m_cVw_shows_J24
  simp (disch := omega) only [gd_ok, cl_nI, nI_s, nI_add, nI_leI, nI_ltI, nI_eq, if_pos, if_neg, q0, q1, q2, q3, q4, q5, q6, q7, q8, q9, q10, CS.i_setI, CS.l_setI, CS.r_setI, CS.a_setI, CS.q_setI, CS.z_setI, CS.i_setL, CS.l_setL, CS.r_setL, CS.a_setL, CS.q_setL, CS.z_setL, CS.i_setR, CS.l_setR, CS.r_setR, CS.a_setR, CS.q_setR, CS.z_setR, CS.i_setA, CS.l_setA, CS.r_setA, CS.a_setA, CS.q_setA, CS.z_setA, CS.i_setQ, CS.l_setQ, CS.r_setQ, CS.a_setQ, CS.q_setQ, CS.z_setQ, CS.i_setF, CS.l_setF, CS.r_setF, CS.a_setF, CS.q_setF, CS.z_setF, CS.i_new, CS.l_new, CS.r_new, CS.a_new, CS.q_new, CS.z_new, Nat.reduceEqDiff, false_and, true_and, and_false, and_true, if_true, if_false, b2_0, b2_1, b2_nn, n0_or, n1_or, n10, n01, dec1, dec2, ob_ok, oe_l, oe_r, gl_ok, gle_ok, gn_s, gv_ok, gv_none, on_none, onSome,u3, u10, u12, s13, hop.1, hop.2.2.2.2.1, and7, hz, hi.2.1, hv _ hi.1]
  unfold AS.inV
  by_cases hg : A.gone o = 0
  · simp only [hg, if_true, decide_true, Bool.true_and]
    by_cases c : A.vw r (A.own o) < A.cn o
    · rw [if_pos c, decide_eq_false (by omega)]; rfl
    · rw [if_neg c, decide_eq_true (by omega)]; rfl
  · rw [if_neg hg, if_pos (by omega)]
    simp [hg, b2_f]
end VW
