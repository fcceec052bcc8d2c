/-! THE CLASS: rows, keys, objects. -/
section RW
variable {N : Nat → Nat} {C : CS} {A : AS} {r rd : Nat}
/-- row j holds len bytes -/
def RW (C : CS) (j len : Nat) : Prop := j < 7 ∧ C.r 5 0 j = some j ∧ C.i 5 1 j = nI len ∧ len ≤ C.z 13 j ∧ C.z 13 j ≤ 224582
/-- from place p on row j holds the bytes k -/
def RB (C : CS) (j p : Nat) (k : List Nat) : Prop := ∀ i (h : i < k.length), k[i] < 256 ∧ C.a 13 j (p + i) = sb k[i]
theorem q255 : (255 : Int32) = nI 255 := by decide
theorem cR_at {j len i : Nat} (h5 : N 5 = 7) (h13 : N 13 = 7) (h : RW C j len) (hi : i < len) : m_cRw_at N j C (nI i) = some (C, C.a 13 j i &&& nI 255) := by
  obtain ⟨a1, a2, a3, a4, a5⟩ := h
  unfold m_cRw_at m_cRw_at_J0 m_cRw_at_J12 m_cRw_at_J26
  simp (disch := omega) only [gd_ok, cl_nI, nI_s, nI_add, nI_leI, nI_ltI, nI_eq, if_pos, if_neg, q0, q1, q2, q3, q4, q5, q6, q7, q8, q9, q10, CS.i_setI, CS.l_setI, CS.r_setI, CS.a_setI, CS.q_setI, CS.z_setI, CS.i_setL, CS.l_setL, CS.r_setL, CS.a_setL, CS.q_setL, CS.z_setL, CS.i_setR, CS.l_setR, CS.r_setR, CS.a_setR, CS.q_setR, CS.z_setR, CS.i_setA, CS.l_setA, CS.r_setA, CS.a_setA, CS.q_setA, CS.z_setA, CS.i_setQ, CS.l_setQ, CS.r_setQ, CS.a_setQ, CS.q_setQ, CS.z_setQ, CS.i_setF, CS.l_setF, CS.r_setF, CS.a_setF, CS.q_setF, CS.z_setF, CS.i_new, CS.l_new, CS.r_new, CS.a_new, CS.q_new, CS.z_new, Nat.reduceEqDiff, false_and, true_and, and_false, and_true, if_true, if_false, b2_0, b2_1, b2_nn, n0_or, n1_or, n10, n01, dec1, dec2, ob_ok, oe_l, oe_r, gl_ok, gle_ok, gn_s, gv_ok, gv_none, on_none, onSome,h5, h13, a2, a3, q255]
theorem cR_out {j len i : Nat} (h5 : N 5 = 7) (h : RW C j len) (hi : len ≤ i) (hi2 : i < 2 ^ 31) : m_cRw_at N j C (nI i) = some (C, -nI 1) := by
  obtain ⟨a1, a2, a3, a4, a5⟩ := h
  unfold m_cRw_at m_cRw_at_J0 m_cRw_at_J12 m_cRw_at_J26
  simp (disch := omega) only [gd_ok, cl_nI, nI_s, nI_add, nI_leI, nI_ltI, nI_eq, if_pos, if_neg, q0, q1, q2, q3, q4, q5, q6, q7, q8, q9, q10, CS.i_setI, CS.l_setI, CS.r_setI, CS.a_setI, CS.q_setI, CS.z_setI, CS.i_setL, CS.l_setL, CS.r_setL, CS.a_setL, CS.q_setL, CS.z_setL, CS.i_setR, CS.l_setR, CS.r_setR, CS.a_setR, CS.q_setR, CS.z_setR, CS.i_setA, CS.l_setA, CS.r_setA, CS.a_setA, CS.q_setA, CS.z_setA, CS.i_setQ, CS.l_setQ, CS.r_setQ, CS.a_setQ, CS.q_setQ, CS.z_setQ, CS.i_setF, CS.l_setF, CS.r_setF, CS.a_setF, CS.q_setF, CS.z_setF, CS.i_new, CS.l_new, CS.r_new, CS.a_new, CS.q_new, CS.z_new, Nat.reduceEqDiff, false_and, true_and, and_false, and_true, if_true, if_false, b2_0, b2_1, b2_nn, n0_or, n1_or, n10, n01, dec1, dec2, ob_ok, oe_l, oe_r, gl_ok, gle_ok, gn_s, gv_ok, gv_none, on_none, onSome,h5, a3]
theorem cR_neg {j : Nat} {i : Int32} (hi : i < nI 0) : m_cRw_at N j C i = some (C, -nI 1) := by
  unfold m_cRw_at m_cRw_at_J0 m_cRw_at_J12 m_cRw_at_J26
  simp only [q0, q1]
  rw [if_pos hi]
theorem cR_atB {j len p i : Nat} {k : List Nat} (h5 : N 5 = 7) (h13 : N 13 = 7) (h : RW C j len) (hb : RB C j p k) (hl : p + k.length ≤ len) (hi : i < k.length) : m_cRw_at N j C (nI (p + i)) = some (C, nI k[i]) := by
  rw [cR_at h5 h13 h (by omega), (hb i hi).2, sb_and (hb i hi).1]
theorem cR_cmp {j1 l1 p1 j2 l2 p2 : Nat} {k1 k2 : List Nat} (h5 : N 5 = 7) (h13 : N 13 = 7) (h1 : RW C j1 l1) (b1 : RB C j1 p1 k1) (e1 : p1 + k1.length ≤ l1) (h2 : RW C j2 l2) (b2 : RB C j2 p2 k2) (e2 : p2 + k2.length ≤ l2) :
    ∃ d : Int32, m_cRw_compareWith N j1 C (nI p1) (nI k1.length) j2 (nI p2) (nI k2.length) = some (C, d) ∧ d.toInt = kcmp k1 k2 := by
  have w1 := h1.2.2.2
  have w2 := h2.2.2.2
  have w3 := h1.1
  have w4 := h2.1
  have := lp_run (body := fun c : CS × Int32 × Int32 × Option Nat × Int32 × Int32 × Int32 => m_cRw_compareWith_B3 N j1 c.1 c.2.1 c.2.2.1 c.2.2.2.1 c.2.2.2.2.1 c.2.2.2.2.2.1 c.2.2.2.2.2.2)
    (fun i c => c = (C, nI p1, nI k1.length, some j2, nI p2, nI k2.length, nI i) ∧ i ≤ k1.length ∧ i ≤ k2.length ∧ k1.take i = k2.take i)
    (fun e => (e = .inl (C, nI k1.length, nI k2.length) ∧ kcmp k1 k2 = (k1.length : Int) - k2.length) ∨ ∃ d : Int32, e = .inr (C, d) ∧ d.toInt = kcmp k1 k2) k1.length ?_ FU (C, nI p1, nI k1.length, some j2, nI p2, nI k2.length, nI 0) (by unfold FU; omega) ⟨rfl, by omega, by omega, rfl⟩
  · obtain ⟨e, g1, g2⟩ := this
    have g1' : m_cRw_compareWith_L3 N j1 C (nI p1) (nI k1.length) (some j2) (nI p2) (nI k2.length) (nI 0) = some e := g1
    unfold m_cRw_compareWith m_cRw_compareWith_J0 m_cRw_compareWith_J50
    rcases g2 with ⟨rfl, g3⟩ | ⟨d, rfl, g3⟩
    · simp (disch := omega) only [gd_ok, cl_nI, nI_s, nI_add, nI_leI, nI_ltI, nI_eq, if_pos, if_neg, q0, q1, q2, q3, q4, q5, q6, q7, q8, q9, q10, CS.i_setI, CS.l_setI, CS.r_setI, CS.a_setI, CS.q_setI, CS.z_setI, CS.i_setL, CS.l_setL, CS.r_setL, CS.a_setL, CS.q_setL, CS.z_setL, CS.i_setR, CS.l_setR, CS.r_setR, CS.a_setR, CS.q_setR, CS.z_setR, CS.i_setA, CS.l_setA, CS.r_setA, CS.a_setA, CS.q_setA, CS.z_setA, CS.i_setQ, CS.l_setQ, CS.r_setQ, CS.a_setQ, CS.q_setQ, CS.z_setQ, CS.i_setF, CS.l_setF, CS.r_setF, CS.a_setF, CS.q_setF, CS.z_setF, CS.i_new, CS.l_new, CS.r_new, CS.a_new, CS.q_new, CS.z_new, Nat.reduceEqDiff, false_and, true_and, and_false, and_true, if_true, if_false, b2_0, b2_1, b2_nn, n0_or, n1_or, n10, n01, dec1, dec2, ob_ok, oe_l, oe_r, gl_ok, gle_ok, gn_s, gv_ok, gv_none, on_none, onSome,g1']
      exact ⟨_, rfl, by rw [g3, sub_toInt (by omega) (by omega)]⟩
    · simp (disch := omega) only [gd_ok, cl_nI, nI_s, nI_add, nI_leI, nI_ltI, nI_eq, if_pos, if_neg, q0, q1, q2, q3, q4, q5, q6, q7, q8, q9, q10, CS.i_setI, CS.l_setI, CS.r_setI, CS.a_setI, CS.q_setI, CS.z_setI, CS.i_setL, CS.l_setL, CS.r_setL, CS.a_setL, CS.q_setL, CS.z_setL, CS.i_setR, CS.l_setR, CS.r_setR, CS.a_setR, CS.q_setR, CS.z_setR, CS.i_setA, CS.l_setA, CS.r_setA, CS.a_setA, CS.q_setA, CS.z_setA, CS.i_setQ, CS.l_setQ, CS.r_setQ, CS.a_setQ, CS.q_setQ, CS.z_setQ, CS.i_setF, CS.l_setF, CS.r_setF, CS.a_setF, CS.q_setF, CS.z_setF, CS.i_new, CS.l_new, CS.r_new, CS.a_new, CS.q_new, CS.z_new, Nat.reduceEqDiff, false_and, true_and, and_false, and_true, if_true, if_false, b2_0, b2_1, b2_nn, n0_or, n1_or, n10, n01, dec1, dec2, ob_ok, oe_l, oe_r, gl_ok, gle_ok, gn_s, gv_ok, gv_none, on_none, onSome,g1']
      exact ⟨d, rfl, g3⟩
  · rintro i _ hi ⟨rfl, g1, g2, g3⟩
    unfold m_cRw_compareWith_B3
    by_cases c1 : i < k1.length
    · by_cases c2 : i < k2.length
      · have a1 := b1 i c1
        have a2 := b2 i c2
        simp (disch := omega) only [gd_ok, cl_nI, nI_s, nI_add, nI_leI, nI_ltI, nI_eq, if_pos, if_neg, q0, q1, q2, q3, q4, q5, q6, q7, q8, q9, q10, CS.i_setI, CS.l_setI, CS.r_setI, CS.a_setI, CS.q_setI, CS.z_setI, CS.i_setL, CS.l_setL, CS.r_setL, CS.a_setL, CS.q_setL, CS.z_setL, CS.i_setR, CS.l_setR, CS.r_setR, CS.a_setR, CS.q_setR, CS.z_setR, CS.i_setA, CS.l_setA, CS.r_setA, CS.a_setA, CS.q_setA, CS.z_setA, CS.i_setQ, CS.l_setQ, CS.r_setQ, CS.a_setQ, CS.q_setQ, CS.z_setQ, CS.i_setF, CS.l_setF, CS.r_setF, CS.a_setF, CS.q_setF, CS.z_setF, CS.i_new, CS.l_new, CS.r_new, CS.a_new, CS.q_new, CS.z_new, Nat.reduceEqDiff, false_and, true_and, and_false, and_true, if_true, if_false, b2_0, b2_1, b2_nn, n0_or, n1_or, n10, n01, dec1, dec2, ob_ok, oe_l, oe_r, gl_ok, gle_ok, gn_s, gv_ok, gv_none, on_none, onSome,h5, cR_atB h5 h13 h1 b1 e1 c1, cR_atB h5 h13 h2 b2 e2 c2, i32_eq0, sub_toInt]
        by_cases c3 : k1[i] = k2[i]
        · rw [if_pos (by omega)]
          left
          refine ⟨_, rfl, by omega, rfl, by omega, by omega, ?_⟩
          rw [List.take_succ_eq_append_getElem c1, List.take_succ_eq_append_getElem c2, g3, c3]
        · rw [if_neg (by omega)]
          right
          exact ⟨_, rfl, Or.inr ⟨_, rfl, by rw [kcmp_at i _ _ c1 c2 g3 c3, sub_toInt (by omega) (by omega)]⟩⟩
      · right
        simp (disch := omega) only [gd_ok, cl_nI, nI_s, nI_add, nI_leI, nI_ltI, nI_eq, if_pos, if_neg, q0, q1, q2, q3, q4, q5, q6, q7, q8, q9, q10, CS.i_setI, CS.l_setI, CS.r_setI, CS.a_setI, CS.q_setI, CS.z_setI, CS.i_setL, CS.l_setL, CS.r_setL, CS.a_setL, CS.q_setL, CS.z_setL, CS.i_setR, CS.l_setR, CS.r_setR, CS.a_setR, CS.q_setR, CS.z_setR, CS.i_setA, CS.l_setA, CS.r_setA, CS.a_setA, CS.q_setA, CS.z_setA, CS.i_setQ, CS.l_setQ, CS.r_setQ, CS.a_setQ, CS.q_setQ, CS.z_setQ, CS.i_setF, CS.l_setF, CS.r_setF, CS.a_setF, CS.q_setF, CS.z_setF, CS.i_new, CS.l_new, CS.r_new, CS.a_new, CS.q_new, CS.z_new, Nat.reduceEqDiff, false_and, true_and, and_false, and_true, if_true, if_false, b2_0, b2_1, b2_nn, n0_or, n1_or, n10, n01, dec1, dec2, ob_ok, oe_l, oe_r, gl_ok, gle_ok, gn_s, gv_ok, gv_none, on_none, onSome]
        exact ⟨_, rfl, Or.inl ⟨rfl, kcmp_end i _ _ g1 g2 (by omega) g3⟩⟩
    · right
      simp (disch := omega) only [gd_ok, cl_nI, nI_s, nI_add, nI_leI, nI_ltI, nI_eq, if_pos, if_neg, q0, q1, q2, q3, q4, q5, q6, q7, q8, q9, q10, CS.i_setI, CS.l_setI, CS.r_setI, CS.a_setI, CS.q_setI, CS.z_setI, CS.i_setL, CS.l_setL, CS.r_setL, CS.a_setL, CS.q_setL, CS.z_setL, CS.i_setR, CS.l_setR, CS.r_setR, CS.a_setR, CS.q_setR, CS.z_setR, CS.i_setA, CS.l_setA, CS.r_setA, CS.a_setA, CS.q_setA, CS.z_setA, CS.i_setQ, CS.l_setQ, CS.r_setQ, CS.a_setQ, CS.q_setQ, CS.z_setQ, CS.i_setF, CS.l_setF, CS.r_setF, CS.a_setF, CS.q_setF, CS.z_setF, CS.i_new, CS.l_new, CS.r_new, CS.a_new, CS.q_new, CS.z_new, Nat.reduceEqDiff, false_and, true_and, and_false, and_true, if_true, if_false, b2_0, b2_1, b2_nn, n0_or, n1_or, n10, n01, dec1, dec2, ob_ok, oe_l, oe_r, gl_ok, gle_ok, gn_s, gv_ok, gv_none, on_none, onSome]
      exact ⟨_, rfl, Or.inl ⟨rfl, kcmp_end i _ _ g1 g2 (by omega) g3⟩⟩
theorem RC.kept (G : RC N C A rd) (hA : AI A) : RW C 0 A.kn := ⟨by omega, G.sz.2.2.2.2.2.2.2.2.2.2.2.2.2.2.1 0 (by omega), G.kp.1, by rw [G.sz.2.2.2.2.2.1]; exact hA.1.2.2.1, by rw [G.sz.2.2.2.2.2.1]; decide⟩
theorem RC.keyB (G : RC N C A rd) {o : Nat} (ho : o < A.n) : RB C 0 (A.ba o) (A.key o) := (G.kp.2 o ho).2.1
theorem cS_cmpKey (G : RC N C A rd) (hA : AI A) {s : Nat} (hs : s < A.n) (hss : A.sp s = s) {j l p : Nat} {k : List Nat} (h2 : RW C j l) (b2 : RB C j p k) (e2 : p + k.length ≤ l) :
    ∃ d : Int32, m_cSt_compareKey N 0 C (A.sj s) j (nI p) (nI k.length) = some (C, d) ∧ d.toInt = kcmp (A.key s) k := by
  obtain ⟨u0, u1, u2, u3, u4, u5, u6, u7, u8, u9, u10, u11, u12, u13, u14, u15, u16, u17, u18⟩ := G.nn
  obtain ⟨s1, s2, s3, s4, s5, s6, s7, s8, s9, s10, s11, s12, s13, s14, s15, s16, s17, s18, s19, s20, s21⟩ := G.st
  have l1 := G.ln.1 s hs hss
  have hop := G.op s hs
  have hkb := (G.kp.2 s hs).1
  have hj := h2.1
  obtain ⟨d, d1, d2⟩ := cR_cmp u5 u13 (G.kept hA) (G.keyB hs) (by omega) h2 b2 e2
  refine ⟨d, ?_, d2⟩
  unfold m_cSt_compareKey m_cSt_compareKey_J0
  simp (disch := omega) only [gd_ok, cl_nI, nI_s, nI_add, nI_leI, nI_ltI, nI_eq, if_pos, if_neg, q0, q1, q2, q3, q4, q5, q6, q7, q8, q9, q10, CS.i_setI, CS.l_setI, CS.r_setI, CS.a_setI, CS.q_setI, CS.z_setI, CS.i_setL, CS.l_setL, CS.r_setL, CS.a_setL, CS.q_setL, CS.z_setL, CS.i_setR, CS.l_setR, CS.r_setR, CS.a_setR, CS.q_setR, CS.z_setR, CS.i_setA, CS.l_setA, CS.r_setA, CS.a_setA, CS.q_setA, CS.z_setA, CS.i_setQ, CS.l_setQ, CS.r_setQ, CS.a_setQ, CS.q_setQ, CS.z_setQ, CS.i_setF, CS.l_setF, CS.r_setF, CS.a_setF, CS.q_setF, CS.z_setF, CS.i_new, CS.l_new, CS.r_new, CS.a_new, CS.q_new, CS.z_new, Nat.reduceEqDiff, false_and, true_and, and_false, and_true, if_true, if_false, b2_0, b2_1, b2_nn, n0_or, n1_or, n10, n01, dec1, dec2, ob_ok, oe_l, oe_r, gl_ok, gle_ok, gn_s, gv_ok, gv_none, on_none, onSome,u8, u7, u3, u5, l1.2.1, s10, hop.2.2.2.2.2.2.2.1, hop.2.2.2.2.2.2.2.2.1, d1]
theorem ox_lt {x : Option Nat} (hx : ∀ m, x = some m → m < A.n) : ox x < A.n + 1 := by
  cases x with
  | none => simp [ox]
  | some m => have := hx m rfl; simp [ox]; omega
theorem cS_spotWith (G : RC N C A rd) (hA : AI A) {x : Option Nat} (hx : ∀ m, x = some m → m < A.n) (hkd : A.kd x = 6) {j l p : Nat} {k : List Nat} (h2 : RW C j l) (b2 : RB C j p k) (e2 : p + k.length ≤ l) :
    m_cSt_spotWith N 0 C (ox x) j (nI p) (nI k.length) = some (C, (A.ks x k).map A.sj) := by
  obtain ⟨u0, u1, u2, u3, u4, u5, u6, u7, u8, u9, u10, u11, u12, u13, u14, u15, u16, u17, u18⟩ := G.nn
  have hox := ox_lt hx
  have hch := G.ln.2.2 x hx
  have hln := L_len hA (x := x)
  have hnn := hA.1.1
  have hj := h2.1
  have hsort := (hA.2.2.1.2.2.2.2.2.2.2.2.1 x).2.2.1 hkd
  have := lp_run (body := fun c : CS × Option Nat × Int32 × Int32 × Option Nat => m_cSt_spotWith_B6 N 0 c.1 c.2.1 c.2.2.1 c.2.2.2.1 c.2.2.2.2)
    (fun i c => ∃ y l1 l2, A.L x = l1 ++ l2 ∧ l1.length = i ∧ c = (C, some j, nI p, nI k.length, y) ∧ chn (C.r 7 2) y (l2.map A.sj) ∧ ∀ t, t ∈ l1 → kcmp (A.key t) k < 0)
    (fun e => (A.ks x k = none ∧ e = .inl C) ∨ e = .inr (C, (A.ks x k).map A.sj)) (A.L x).length ?_ FU (C, some j, nI p, nI k.length, C.r 3 13 (ox x)) (by unfold FU; omega) ⟨_, [], A.L x, rfl, rfl, rfl, hch, fun t h => by cases h⟩
  · obtain ⟨e, g1, g2⟩ := this
    have g1' : m_cSt_spotWith_L6 N 0 C (some j) (nI p) (nI k.length) (C.r 3 13 (ox x)) = some e := g1
    unfold m_cSt_spotWith m_cSt_spotWith_J0
    rcases g2 with ⟨g3, rfl⟩ | rfl
    · simp (disch := omega) only [gd_ok, cl_nI, nI_s, nI_add, nI_leI, nI_ltI, nI_eq, if_pos, if_neg, q0, q1, q2, q3, q4, q5, q6, q7, q8, q9, q10, CS.i_setI, CS.l_setI, CS.r_setI, CS.a_setI, CS.q_setI, CS.z_setI, CS.i_setL, CS.l_setL, CS.r_setL, CS.a_setL, CS.q_setL, CS.z_setL, CS.i_setR, CS.l_setR, CS.r_setR, CS.a_setR, CS.q_setR, CS.z_setR, CS.i_setA, CS.l_setA, CS.r_setA, CS.a_setA, CS.q_setA, CS.z_setA, CS.i_setQ, CS.l_setQ, CS.r_setQ, CS.a_setQ, CS.q_setQ, CS.z_setQ, CS.i_setF, CS.l_setF, CS.r_setF, CS.a_setF, CS.q_setF, CS.z_setF, CS.i_new, CS.l_new, CS.r_new, CS.a_new, CS.q_new, CS.z_new, Nat.reduceEqDiff, false_and, true_and, and_false, and_true, if_true, if_false, b2_0, b2_1, b2_nn, n0_or, n1_or, n10, n01, dec1, dec2, ob_ok, oe_l, oe_r, gl_ok, gle_ok, gn_s, gv_ok, gv_none, on_none, onSome,u3, g1', g3]
      rfl
    · simp (disch := omega) only [gd_ok, cl_nI, nI_s, nI_add, nI_leI, nI_ltI, nI_eq, if_pos, if_neg, q0, q1, q2, q3, q4, q5, q6, q7, q8, q9, q10, CS.i_setI, CS.l_setI, CS.r_setI, CS.a_setI, CS.q_setI, CS.z_setI, CS.i_setL, CS.l_setL, CS.r_setL, CS.a_setL, CS.q_setL, CS.z_setL, CS.i_setR, CS.l_setR, CS.r_setR, CS.a_setR, CS.q_setR, CS.z_setR, CS.i_setA, CS.l_setA, CS.r_setA, CS.a_setA, CS.q_setA, CS.z_setA, CS.i_setQ, CS.l_setQ, CS.r_setQ, CS.a_setQ, CS.q_setQ, CS.z_setQ, CS.i_setF, CS.l_setF, CS.r_setF, CS.a_setF, CS.q_setF, CS.z_setF, CS.i_new, CS.l_new, CS.r_new, CS.a_new, CS.q_new, CS.z_new, Nat.reduceEqDiff, false_and, true_and, and_false, and_true, if_true, if_false, b2_0, b2_1, b2_nn, n0_or, n1_or, n10, n01, dec1, dec2, ob_ok, oe_l, oe_r, gl_ok, gle_ok, gn_s, gv_ok, gv_none, on_none, onSome,u3, g1']
  · rintro i _ hi ⟨y, l1, l2, hL, hil, rfl, hc, hlt⟩
    unfold m_cSt_spotWith_B6
    cases l2 with
    | nil =>
      right
      have hy : y = none := hc
      subst hy
      simp only [on_none]
      refine ⟨_, rfl, Or.inl ⟨?_, rfl⟩⟩
      rw [ks_none]
      intro s hs
      rw [hL, List.append_nil] at hs
      exact kcmp_irr (hlt s hs)
    | cons t l2 =>
      obtain ⟨rfl, hc⟩ := hc
      have htL : t ∈ A.L x := by rw [hL]; simp
      have ht := L_mem hA htL
      have htj := (G.ln.1 t ht.1 ht.2.2).1
      have hlen : l1.length < (A.L x).length := by rw [hL]; simp
      obtain ⟨d, d1, d2⟩ := cS_cmpKey G hA ht.1 ht.2.2 h2 b2 e2
      simp (disch := omega) only [gd_ok, cl_nI, nI_s, nI_add, nI_leI, nI_ltI, nI_eq, if_pos, if_neg, q0, q1, q2, q3, q4, q5, q6, q7, q8, q9, q10, CS.i_setI, CS.l_setI, CS.r_setI, CS.a_setI, CS.q_setI, CS.z_setI, CS.i_setL, CS.l_setL, CS.r_setL, CS.a_setL, CS.q_setL, CS.z_setL, CS.i_setR, CS.l_setR, CS.r_setR, CS.a_setR, CS.q_setR, CS.z_setR, CS.i_setA, CS.l_setA, CS.r_setA, CS.a_setA, CS.q_setA, CS.z_setA, CS.i_setQ, CS.l_setQ, CS.r_setQ, CS.a_setQ, CS.q_setQ, CS.z_setQ, CS.i_setF, CS.l_setF, CS.r_setF, CS.a_setF, CS.q_setF, CS.z_setF, CS.i_new, CS.l_new, CS.r_new, CS.a_new, CS.q_new, CS.z_new, Nat.reduceEqDiff, false_and, true_and, and_false, and_true, if_true, if_false, b2_0, b2_1, b2_nn, n0_or, n1_or, n10, n01, dec1, dec2, ob_ok, oe_l, oe_r, gl_ok, gle_ok, gn_s, gv_ok, gv_none, on_none, onSome,u5, u7, u8, d1]
      simp only [i32_eq0, i32_le0]
      by_cases c1 : d.toInt = 0
      · rw [if_pos c1]
        right
        refine ⟨_, rfl, Or.inr ?_⟩
        rw [(ks_some hA hkd).mpr ⟨htL, kcmp_eq _ _ (by omega)⟩]
        rfl
      · rw [if_neg c1]
        by_cases c2 : d.toInt ≤ 0
        · rw [if_pos c2]
          left
          refine ⟨_, rfl, by omega, C.r 7 2 (A.sj t), l1 ++ [t], l2, by rw [hL]; simp, by simp; omega, rfl, hc, ?_⟩
          intro z hz
          rcases List.mem_append.mp hz with h5 | h5
          · exact hlt z h5
          · rw [List.mem_singleton] at h5; rw [h5]; omega
        · rw [if_neg c2]
          right
          refine ⟨_, rfl, Or.inr ?_⟩
          have : A.ks x k = none := by
            rw [ks_none]
            intro s hs e
            rw [hL] at hs hsort
            rcases List.mem_append.mp hs with h5 | h5
            · exact kcmp_irr (hlt s h5) e
            · rw [List.pairwise_append] at hsort
              rcases List.mem_cons.mp h5 with h6 | h6
              · subst h6; rw [e, kcmp_self] at d2; omega
              · have h7 := (List.pairwise_cons.mp hsort.2.1).1 s h6
                rw [e] at h7
                omega
          rw [this]
          rfl
/-! objects -/
theorem cV_opAt (G : RC N C A rd) (hA : AI A) (hv : VC C A r) (i : Int32) :
    (i = nI 0 ∧ m_cVw_opAt N 0 C i = some (C, some 0)) ∨ (∃ o, o < A.n ∧ A.inV r o = true ∧ i = nI (A.id o) ∧ m_cVw_opAt N 0 C i = some (C, some (o + 1))) ∨
    (i ≠ nI 0 ∧ (∀ o, o < A.n → A.inV r o = true → i ≠ nI (A.id o)) ∧ m_cVw_opAt N 0 C i = some (C, none)) := by
  obtain ⟨u0, u1, u2, u3, u4, u5, u6, u7, u8, u9, u10, u11, u12, u13, u14, u15, u16, u17, u18⟩ := G.nn
  obtain ⟨s1, s2, s3, s4, s5, s6, s7, s8, s9, s10, s11, s12, s13, s14, s15, s16, s17, s18, s19, s20, s21⟩ := G.st
  have hz := G.sz.1
  unfold m_cVw_opAt m_cVw_opAt_J0 m_cVw_opAt_J28 m_cVw_opAt_J41 m_cVw_opAt_J54 m_cVw_opAt_J59
  by_cases c0 : i = nI 0
  · left
    refine ⟨c0, ?_⟩
    subst c0
    simp (disch := omega) only [gd_ok, cl_nI, nI_s, nI_add, nI_leI, nI_ltI, nI_eq, if_pos, if_neg, q0, q1, q2, q3, q4, q5, q6, q7, q8, q9, q10, CS.i_setI, CS.l_setI, CS.r_setI, CS.a_setI, CS.q_setI, CS.z_setI, CS.i_setL, CS.l_setL, CS.r_setL, CS.a_setL, CS.q_setL, CS.z_setL, CS.i_setR, CS.l_setR, CS.r_setR, CS.a_setR, CS.q_setR, CS.z_setR, CS.i_setA, CS.l_setA, CS.r_setA, CS.a_setA, CS.q_setA, CS.z_setA, CS.i_setQ, CS.l_setQ, CS.r_setQ, CS.a_setQ, CS.q_setQ, CS.z_setQ, CS.i_setF, CS.l_setF, CS.r_setF, CS.a_setF, CS.q_setF, CS.z_setF, CS.i_new, CS.l_new, CS.r_new, CS.a_new, CS.q_new, CS.z_new, Nat.reduceEqDiff, false_and, true_and, and_false, and_true, if_true, if_false, b2_0, b2_1, b2_nn, n0_or, n1_or, n10, n01, dec1, dec2, ob_ok, oe_l, oe_r, gl_ok, gle_ok, gn_s, gv_ok, gv_none, on_none, onSome,u10, u8, s12, s8]
  · right
    have hnone : (∀ o, o < A.n → A.inV r o = true → i ≠ nI (A.id o)) ∨ ∃ o, o < A.n ∧ A.inV r o = true ∧ i = nI (A.id o) := by
      by_cases h : ∃ o, o < A.n ∧ A.inV r o = true ∧ i = nI (A.id o)
      · exact Or.inr h
      · left
        intro o h1 h2 h3
        exact h ⟨o, h1, h2, h3⟩
    have hrange : ∀ o, o < A.n → A.id o < 32008 := by
      intro o ho
      have h1 := (hA.2.2.1.1 o ho)
      have h2 := hA.1.1
      have h3 := h1.2.2.2.1
      omega
    by_cases c1 : i < nI 0
    · right
      refine ⟨c0, ?_, ?_⟩
      · rintro o ho _ rfl
        exact nI_pos (n := A.id o) (by have := hrange o ho; omega) c1
      · simp only [q0]
        rw [if_neg c0, if_pos c1]
        rfl
    · obtain ⟨k, hk, rfl⟩ := nI_of c1
      have hk0 : ¬ k = 0 := fun e => c0 (by rw [e])
      by_cases c2 : k < 32008
      · simp (disch := omega) only [gd_ok, cl_nI, nI_s, nI_add, nI_leI, nI_ltI, nI_eq, if_pos, if_neg, q0, q1, q2, q3, q4, q5, q6, q7, q8, q9, q10, CS.i_setI, CS.l_setI, CS.r_setI, CS.a_setI, CS.q_setI, CS.z_setI, CS.i_setL, CS.l_setL, CS.r_setL, CS.a_setL, CS.q_setL, CS.z_setL, CS.i_setR, CS.l_setR, CS.r_setR, CS.a_setR, CS.q_setR, CS.z_setR, CS.i_setA, CS.l_setA, CS.r_setA, CS.a_setA, CS.q_setA, CS.z_setA, CS.i_setQ, CS.l_setQ, CS.r_setQ, CS.a_setQ, CS.q_setQ, CS.z_setQ, CS.i_setF, CS.l_setF, CS.r_setF, CS.a_setF, CS.q_setF, CS.z_setF, CS.i_new, CS.l_new, CS.r_new, CS.a_new, CS.q_new, CS.z_new, Nat.reduceEqDiff, false_and, true_and, and_false, and_true, if_true, if_false, b2_0, b2_1, b2_nn, n0_or, n1_or, n10, n01, dec1, dec2, ob_ok, oe_l, oe_r, gl_ok, gle_ok, gn_s, gv_ok, gv_none, on_none, onSome,u10, u8, u15, s12, s9, hz]
        cases hq : C.q 15 0 k with
        | none =>
          right
          refine ⟨c0, ?_, by simp only [on_none]⟩
          intro o ho hvo e
          have := (nI_eq hk (by have := hrange o ho; omega)).mp e
          have h1 := G.idd.1 o ho (inV_gone hvo)
          rw [← this, hq] at h1
          cases h1
        | some j =>
          obtain ⟨o, o1, o2, o3, rfl⟩ := G.idd.2 k j hq
          simp (disch := omega) only [gd_ok, cl_nI, nI_s, nI_add, nI_leI, nI_ltI, nI_eq, if_pos, if_neg, q0, q1, q2, q3, q4, q5, q6, q7, q8, q9, q10, CS.i_setI, CS.l_setI, CS.r_setI, CS.a_setI, CS.q_setI, CS.z_setI, CS.i_setL, CS.l_setL, CS.r_setL, CS.a_setL, CS.q_setL, CS.z_setL, CS.i_setR, CS.l_setR, CS.r_setR, CS.a_setR, CS.q_setR, CS.z_setR, CS.i_setA, CS.l_setA, CS.r_setA, CS.a_setA, CS.q_setA, CS.z_setA, CS.i_setQ, CS.l_setQ, CS.r_setQ, CS.a_setQ, CS.q_setQ, CS.z_setQ, CS.i_setF, CS.l_setF, CS.r_setF, CS.a_setF, CS.q_setF, CS.z_setF, CS.i_new, CS.l_new, CS.r_new, CS.a_new, CS.q_new, CS.z_new, Nat.reduceEqDiff, false_and, true_and, and_false, and_true, if_true, if_false, b2_0, b2_1, b2_nn, n0_or, n1_or, n10, n01, dec1, dec2, ob_ok, oe_l, oe_r, gl_ok, gle_ok, gn_s, gv_ok, gv_none, on_none, onSome,u3, cV_shows G hA hv o1]
          by_cases c3 : A.inV r o = false
          · rw [if_pos c3]
            right
            refine ⟨c0, ?_, rfl⟩
            intro p hp hvp e
            have := (nI_eq hk (by have := hrange p hp; omega)).mp e
            have := hA.2.2.1.2.1 o p o1 hp o2 (inV_gone hvp) (by omega)
            subst this
            rw [c3] at hvp
            cases hvp
          · rw [if_neg c3]
            left
            exact ⟨o, o1, by simpa using c3, by rw [o3], rfl⟩
      · right
        refine ⟨c0, ?_, ?_⟩
        · intro o ho _ e
          have := hrange o ho
          have := (nI_eq hk (by omega)).mp e
          omega
        · simp (disch := omega) only [gd_ok, cl_nI, nI_s, nI_add, nI_leI, nI_ltI, nI_eq, if_pos, if_neg, q0, q1, q2, q3, q4, q5, q6, q7, q8, q9, q10, CS.i_setI, CS.l_setI, CS.r_setI, CS.a_setI, CS.q_setI, CS.z_setI, CS.i_setL, CS.l_setL, CS.r_setL, CS.a_setL, CS.q_setL, CS.z_setL, CS.i_setR, CS.l_setR, CS.r_setR, CS.a_setR, CS.q_setR, CS.z_setR, CS.i_setA, CS.l_setA, CS.r_setA, CS.a_setA, CS.q_setA, CS.z_setA, CS.i_setQ, CS.l_setQ, CS.r_setQ, CS.a_setQ, CS.q_setQ, CS.z_setQ, CS.i_setF, CS.l_setF, CS.r_setF, CS.a_setF, CS.q_setF, CS.z_setF, CS.i_new, CS.l_new, CS.r_new, CS.a_new, CS.q_new, CS.z_new, Nat.reduceEqDiff, false_and, true_and, and_false, and_true, if_true, if_false, b2_0, b2_1, b2_nn, n0_or, n1_or, n10, n01, dec1, dec2, ob_ok, oe_l, oe_r, gl_ok, gle_ok, gn_s, gv_ok, gv_none, on_none, onSome,u10, u8, u15, s12, s9, hz]
theorem kd_ox (G : RC N C A rd) {x : Option Nat} (hx : ∀ m, x = some m → m < A.n) : C.i 3 2 (ox x) = nI (A.kd x) := by
  cases x with
  | none => exact G.rt.2.2.1
  | some m => exact (G.op m (hx m rfl)).2.2.1
theorem oV_ltn {x : Option Nat} (h : A.oV r x) : ∀ m, x = some m → m < A.n := by
  rintro m rfl
  exact h.1
/-- the object, or NoSuchElement -/
theorem cJ_objectAt (G : RC N C A rd) (hA : AI A) (hv : VC C A r) (i : Int32) :
    (∃ x, A.oV r x ∧ i = nI (A.oi x) ∧ m_cJT_objectAt N 0 C i = some (.inl (C, some (ox x)))) ∨ ((∀ x, A.oV r x → i ≠ nI (A.oi x)) ∧ m_cJT_objectAt N 0 C i = some (.inr (C, 3))) := by
  obtain ⟨u0, u1, u2, u3, u4, u5, u6, u7, u8, u9, u10, u11, u12, u13, u14, u15, u16, u17, u18⟩ := G.nn
  obtain ⟨s1, s2, s3, s4, s5, s6, s7, s8, s9, s10, s11, s12, s13, s14, s15, s16, s17, s18, s19, s20, s21⟩ := G.st
  have hn0 := hA.1.1
  unfold m_cJT_objectAt m_cJT_objectAt_J0 m_cJT_objectAt_J20
  have hisO : ∀ j a, j < A.n + 1 → C.i 3 2 j = nI a → a ≤ 10 → m_cOp_isObject N j C = some (C, b2 (decide (6 ≤ a ∧ a ≤ 8))) := by
    intro j a hj h1 h2
    unfold m_cOp_isObject m_cOp_isObject_J0 m_cOp_isObject_J22 m_cOp_isObject_J23
    simp (disch := omega) only [gd_ok, cl_nI, nI_s, nI_add, nI_leI, nI_ltI, nI_eq, if_pos, if_neg, q0, q1, q2, q3, q4, q5, q6, q7, q8, q9, q10, CS.i_setI, CS.l_setI, CS.r_setI, CS.a_setI, CS.q_setI, CS.z_setI, CS.i_setL, CS.l_setL, CS.r_setL, CS.a_setL, CS.q_setL, CS.z_setL, CS.i_setR, CS.l_setR, CS.r_setR, CS.a_setR, CS.q_setR, CS.z_setR, CS.i_setA, CS.l_setA, CS.r_setA, CS.a_setA, CS.q_setA, CS.z_setA, CS.i_setQ, CS.l_setQ, CS.r_setQ, CS.a_setQ, CS.q_setQ, CS.z_setQ, CS.i_setF, CS.l_setF, CS.r_setF, CS.a_setF, CS.q_setF, CS.z_setF, CS.i_new, CS.l_new, CS.r_new, CS.a_new, CS.q_new, CS.z_new, Nat.reduceEqDiff, false_and, true_and, and_false, and_true, if_true, if_false, b2_0, b2_1, b2_nn, n0_or, n1_or, n10, n01, dec1, dec2, ob_ok, oe_l, oe_r, gl_ok, gle_ok, gn_s, gv_ok, gv_none, on_none, onSome,u3, h1]
    by_cases c1 : a < 6
    · rw [if_pos c1, decide_eq_false (by omega)]; rfl
    · rw [if_neg c1]
      by_cases c2 : 8 < a
      · rw [if_pos c2, decide_eq_false (by omega)]; rfl
      · rw [if_neg c2, decide_eq_true (by omega)]; rfl
  rcases cV_opAt G hA hv i with ⟨h1, h2⟩ | ⟨o, h1, h2, h3, h4⟩ | ⟨h1, h2, h3⟩
  · left
    refine ⟨none, trivial, h1, ?_⟩
    simp (disch := omega) only [gd_ok, cl_nI, nI_s, nI_add, nI_leI, nI_ltI, nI_eq, if_pos, if_neg, q0, q1, q2, q3, q4, q5, q6, q7, q8, q9, q10, CS.i_setI, CS.l_setI, CS.r_setI, CS.a_setI, CS.q_setI, CS.z_setI, CS.i_setL, CS.l_setL, CS.r_setL, CS.a_setL, CS.q_setL, CS.z_setL, CS.i_setR, CS.l_setR, CS.r_setR, CS.a_setR, CS.q_setR, CS.z_setR, CS.i_setA, CS.l_setA, CS.r_setA, CS.a_setA, CS.q_setA, CS.z_setA, CS.i_setQ, CS.l_setQ, CS.r_setQ, CS.a_setQ, CS.q_setQ, CS.z_setQ, CS.i_setF, CS.l_setF, CS.r_setF, CS.a_setF, CS.q_setF, CS.z_setF, CS.i_new, CS.l_new, CS.r_new, CS.a_new, CS.q_new, CS.z_new, Nat.reduceEqDiff, false_and, true_and, and_false, and_true, if_true, if_false, b2_0, b2_1, b2_nn, n0_or, n1_or, n10, n01, dec1, dec2, ob_ok, oe_l, oe_r, gl_ok, gle_ok, gn_s, gv_ok, gv_none, on_none, onSome,u11, u10, u3, s3, h2, hisO 0 6 (by omega) G.rt.2.2.1 (by omega)]
    rfl
  · have hact := (hA.2.2.1.1 o h1).2.2.2.2.1
    by_cases c : 6 ≤ A.act o ∧ A.act o ≤ 8
    · left
      refine ⟨some o, ⟨h1, h2, c.1, c.2⟩, h3, ?_⟩
      simp (disch := omega) only [gd_ok, cl_nI, nI_s, nI_add, nI_leI, nI_ltI, nI_eq, if_pos, if_neg, q0, q1, q2, q3, q4, q5, q6, q7, q8, q9, q10, CS.i_setI, CS.l_setI, CS.r_setI, CS.a_setI, CS.q_setI, CS.z_setI, CS.i_setL, CS.l_setL, CS.r_setL, CS.a_setL, CS.q_setL, CS.z_setL, CS.i_setR, CS.l_setR, CS.r_setR, CS.a_setR, CS.q_setR, CS.z_setR, CS.i_setA, CS.l_setA, CS.r_setA, CS.a_setA, CS.q_setA, CS.z_setA, CS.i_setQ, CS.l_setQ, CS.r_setQ, CS.a_setQ, CS.q_setQ, CS.z_setQ, CS.i_setF, CS.l_setF, CS.r_setF, CS.a_setF, CS.q_setF, CS.z_setF, CS.i_new, CS.l_new, CS.r_new, CS.a_new, CS.q_new, CS.z_new, Nat.reduceEqDiff, false_and, true_and, and_false, and_true, if_true, if_false, b2_0, b2_1, b2_nn, n0_or, n1_or, n10, n01, dec1, dec2, ob_ok, oe_l, oe_r, gl_ok, gle_ok, gn_s, gv_ok, gv_none, on_none, onSome,u11, u10, u3, s3, h4, hisO (o + 1) (A.act o) (by omega) (G.op o h1).2.2.1 hact]
      rw [if_neg (by simp [c])]
      rfl
    · right
      refine ⟨?_, ?_⟩
      · intro x hx e
        cases x with
        | none =>
          have := (hA.2.2.1.1 o h1).2.2.1
          have h5 := id_lt hA h1
          rw [h3] at e
          have := (nI_eq (by omega) (by simp [AS.oi])).mp e
          simp only [AS.oi] at this
          omega
        | some p =>
          have h5 := id_lt hA h1
          have h6 := id_lt hA hx.1
          rw [h3] at e
          have := (nI_eq (by omega) (by simp only [AS.oi]; omega)).mp e
          have := inV_inj hA h1 hx.1 h2 hx.2.1 this
          subst this
          exact c ⟨hx.2.2.1, hx.2.2.2⟩
      · simp (disch := omega) only [gd_ok, cl_nI, nI_s, nI_add, nI_leI, nI_ltI, nI_eq, if_pos, if_neg, q0, q1, q2, q3, q4, q5, q6, q7, q8, q9, q10, CS.i_setI, CS.l_setI, CS.r_setI, CS.a_setI, CS.q_setI, CS.z_setI, CS.i_setL, CS.l_setL, CS.r_setL, CS.a_setL, CS.q_setL, CS.z_setL, CS.i_setR, CS.l_setR, CS.r_setR, CS.a_setR, CS.q_setR, CS.z_setR, CS.i_setA, CS.l_setA, CS.r_setA, CS.a_setA, CS.q_setA, CS.z_setA, CS.i_setQ, CS.l_setQ, CS.r_setQ, CS.a_setQ, CS.q_setQ, CS.z_setQ, CS.i_setF, CS.l_setF, CS.r_setF, CS.a_setF, CS.q_setF, CS.z_setF, CS.i_new, CS.l_new, CS.r_new, CS.a_new, CS.q_new, CS.z_new, Nat.reduceEqDiff, false_and, true_and, and_false, and_true, if_true, if_false, b2_0, b2_1, b2_nn, n0_or, n1_or, n10, n01, dec1, dec2, ob_ok, oe_l, oe_r, gl_ok, gle_ok, gn_s, gv_ok, gv_none, on_none, onSome,u11, u10, u3, s3, h4, hisO (o + 1) (A.act o) (by omega) (G.op o h1).2.2.1 hact]
        rw [if_pos (by simp [c])]
  · right
    refine ⟨?_, ?_⟩
    · intro x hx e
      cases x with
      | none => exact h1 e
      | some p => exact h2 p hx.1 hx.2.1 e
    · simp (disch := omega) only [gd_ok, cl_nI, nI_s, nI_add, nI_leI, nI_ltI, nI_eq, if_pos, if_neg, q0, q1, q2, q3, q4, q5, q6, q7, q8, q9, q10, CS.i_setI, CS.l_setI, CS.r_setI, CS.a_setI, CS.q_setI, CS.z_setI, CS.i_setL, CS.l_setL, CS.r_setL, CS.a_setL, CS.q_setL, CS.z_setL, CS.i_setR, CS.l_setR, CS.r_setR, CS.a_setR, CS.q_setR, CS.z_setR, CS.i_setA, CS.l_setA, CS.r_setA, CS.a_setA, CS.q_setA, CS.z_setA, CS.i_setQ, CS.l_setQ, CS.r_setQ, CS.a_setQ, CS.q_setQ, CS.z_setQ, CS.i_setF, CS.l_setF, CS.r_setF, CS.a_setF, CS.q_setF, CS.z_setF, CS.i_new, CS.l_new, CS.r_new, CS.a_new, CS.q_new, CS.z_new, Nat.reduceEqDiff, false_and, true_and, and_false, and_true, if_true, if_false, b2_0, b2_1, b2_nn, n0_or, n1_or, n10, n01, dec1, dec2, ob_ok, oe_l, oe_r, gl_ok, gle_ok, gn_s, gv_ok, gv_none, on_none, onSome,u11, u10, s3, h3]
end RW
