/-! A PLACE by key or index: needPlace, placeAt against point. -/
section CPL
variable {S S' : MS} {N : Nat → Nat} {C C' : CS} {A : AS} {r rd : Nat} {bi bf bs bo : List Nat} {ji jf js a : Nat}
theorem hm1 : (-1 : Int32) = -nI 1 := by decide
/-- what is given fits the place -/
def plOK (bf : List Nat) (g : Nat) (x3 : Int32) : Prop := (x3 = -nI 1 → g = 1 ∧ 1 ≤ bf.length ∧ bf.length ≤ 64) ∧ (x3 ≠ -nI 1 → g = 0)
theorem cJ_needPlace (G : RC N C A rd) (hio : RIO S C bi bf bs bo ji jf js a) {g : Nat} (hg : g ≤ 2) (x3 : Int32) : (plOK bf g x3 ∧ m_cJT_needPlace N 0 C (nI g) x3 = some (.inl C)) ∨ (¬ plOK bf g x3 ∧ m_cJT_needPlace N 0 C (nI g) x3 = some (.inr (C, 1))) := by
  obtain ⟨u0, u1, u2, u3, u4, u5, u6, u7, u8, u9, u10, u11, u12, u13, u14, u15, u16, u17, u18⟩ := G.nn
  have hk := cJ_needKey G hio
  unfold m_cJT_needPlace m_cJT_needPlace_J0 m_cJT_needPlace_J11 m_cJT_needPlace_J31 plOK
  by_cases c : x3 = -nI 1
  · have c' : x3 = -1 := c.trans hm1.symm
    rw [if_pos c']
    by_cases e : g = 1
    · rw [if_pos (show nI g = 1 by rw [e]; rfl), if_pos c']
      by_cases k : 1 ≤ bf.length ∧ bf.length ≤ 64
      · rw [if_pos k] at hk
        left
        refine ⟨⟨fun _ => ⟨e, k.1, k.2⟩, fun h => absurd c h⟩, ?_⟩
        simp (disch := omega) only [gd_ok, cl_nI, nI_s, nI_add, nI_leI, nI_ltI, nI_eq, if_pos, if_neg, q0, q1, q2, q3, q4, q5, q6, q7, q8, q9, q10, CS.i_setI, CS.l_setI, CS.r_setI, CS.a_setI, CS.q_setI, CS.z_setI, CS.i_setL, CS.l_setL, CS.r_setL, CS.a_setL, CS.q_setL, CS.z_setL, CS.i_setR, CS.l_setR, CS.r_setR, CS.a_setR, CS.q_setR, CS.z_setR, CS.i_setA, CS.l_setA, CS.r_setA, CS.a_setA, CS.q_setA, CS.z_setA, CS.i_setQ, CS.l_setQ, CS.r_setQ, CS.a_setQ, CS.q_setQ, CS.z_setQ, CS.i_setF, CS.l_setF, CS.r_setF, CS.a_setF, CS.q_setF, CS.z_setF, CS.i_new, CS.l_new, CS.r_new, CS.a_new, CS.q_new, CS.z_new, Nat.reduceEqDiff, false_and, true_and, and_false, and_true, if_true, if_false, b2_0, b2_1, b2_nn, n0_or, n1_or, n10, n01, dec1, dec2, ob_ok, oe_l, oe_r, gl_ok, gle_ok, gn_s, gv_ok, gv_none, on_none, onSome,u11, hk]
      · rw [if_neg k] at hk
        right
        refine ⟨fun h => k (h.1 c).2, ?_⟩
        simp (disch := omega) only [gd_ok, cl_nI, nI_s, nI_add, nI_leI, nI_ltI, nI_eq, if_pos, if_neg, q0, q1, q2, q3, q4, q5, q6, q7, q8, q9, q10, CS.i_setI, CS.l_setI, CS.r_setI, CS.a_setI, CS.q_setI, CS.z_setI, CS.i_setL, CS.l_setL, CS.r_setL, CS.a_setL, CS.q_setL, CS.z_setL, CS.i_setR, CS.l_setR, CS.r_setR, CS.a_setR, CS.q_setR, CS.z_setR, CS.i_setA, CS.l_setA, CS.r_setA, CS.a_setA, CS.q_setA, CS.z_setA, CS.i_setQ, CS.l_setQ, CS.r_setQ, CS.a_setQ, CS.q_setQ, CS.z_setQ, CS.i_setF, CS.l_setF, CS.r_setF, CS.a_setF, CS.q_setF, CS.z_setF, CS.i_new, CS.l_new, CS.r_new, CS.a_new, CS.q_new, CS.z_new, Nat.reduceEqDiff, false_and, true_and, and_false, and_true, if_true, if_false, b2_0, b2_1, b2_nn, n0_or, n1_or, n10, n01, dec1, dec2, ob_ok, oe_l, oe_r, gl_ok, gle_ok, gn_s, gv_ok, gv_none, on_none, onSome,u11, hk]
    · rw [if_neg (show ¬ nI g = 1 from fun h => e ((nI_eq (by omega) (by omega)).mp h))]
      exact Or.inr ⟨fun h => e (h.1 c).1, rfl⟩
  · have c' : ¬ x3 = -1 := fun h => c (h.trans hm1)
    rw [if_neg c']
    by_cases e : g = 0
    · rw [if_pos (show nI g = 0 by rw [e]; rfl), if_neg c']
      exact Or.inl ⟨⟨fun h => absurd h c, fun _ => e⟩, rfl⟩
    · rw [if_neg (show ¬ nI g = 0 from fun h => e ((nI_eq (by omega) (by omega)).mp h))]
      exact Or.inr ⟨fun h => e (h.2 c), rfl⟩
theorem pS_point (hr : r < 8) (h5 : S.i 5 = nI bf.length) (hb : bf.length ≤ 8192) {g : Nat} (hg : g ≤ 2) (x2 x3 x5 : Int32) : (plOK bf g x3 ∧ m_rpoint S (nI r) x2 x3 (nI g) x5 = m_rpoint_J39 S (nI r) x2 x3 x5) ∨ (¬ plOK bf g x3 ∧ m_rpoint S (nI r) x2 x3 (nI g) x5 = some (S, nI 1)) := by
  have hk := pS_isKey (S := S) (k := bf.length) (by omega)
  unfold m_rpoint m_rpoint_J0
  rw [pS_isR hr]
  simp only [ob_ok]
  rw [if_neg (show ¬ nI 1 = 0 by decide)]
  unfold m_rpoint_J19 m_rpoint_J37 plOK
  by_cases c : x3 = -nI 1
  · have c' : x3 = -1 := c.trans hm1.symm
    rw [if_pos c']
    by_cases e : g = 1
    · rw [if_pos (show nI g = 1 by rw [e]; rfl), if_pos c', h5, hk]
      simp only [ob_ok]
      by_cases k : 1 ≤ bf.length ∧ bf.length ≤ 64
      · rw [decide_eq_true k, if_neg (show ¬ b2 true = 0 by decide)]
        exact Or.inl ⟨⟨fun _ => ⟨e, k.1, k.2⟩, fun h => absurd c h⟩, rfl⟩
      · rw [decide_eq_false k, if_pos (show b2 false = 0 by decide)]
        exact Or.inr ⟨fun h => k (h.1 c).2, rfl⟩
    · rw [if_neg (show ¬ nI g = 1 from fun h => e ((nI_eq (by omega) (by omega)).mp h))]
      exact Or.inr ⟨fun h => e (h.1 c).1, rfl⟩
  · have c' : ¬ x3 = -1 := fun h => c (h.trans hm1)
    rw [if_neg c']
    by_cases e : g = 0
    · rw [if_pos (show nI g = 0 by rw [e]; rfl), if_neg c']
      exact Or.inl ⟨⟨fun h => absurd h c, fun _ => e⟩, rfl⟩
    · rw [if_neg (show ¬ nI g = 0 from fun h => e ((nI_eq (by omega) (by omega)).mp h))]
      exact Or.inr ⟨fun h => e (h.2 c), rfl⟩
/-- the class's end: a place with something in it -/
theorem cJ_filled (G : RC N C A rd) (hA : AI A) (hv : VC C A r) {s : Nat} (hs : s < A.n) (hss : A.sp s = s) (hrd : rd < 2 ^ 30) :
    ∃ C', VR A C rd 1 C' ∧ m_cJT_placeAt_J45 N 0 C (some (A.sj s)) = some (if A.flB r s then .inl (C', some (A.sj s)) else .inr (C', 3)) := by
  obtain ⟨u0, u1, u2, u3, u4, u5, u6, u7, u8, u9, u10, u11, u12, u13, u14, u15, u16, u17, u18⟩ := G.nn
  obtain ⟨s1, s2, s3, s4, s5, s6, s7, s8, s9, s10, s11, s12, s13, s14, s15, s16, s17, s18, s19, s20, s21⟩ := G.st
  obtain ⟨C', h1, h2, h3⟩ := cV_top G hA hv hs hss hrd
  have hsj := (G.ln.1 s hs hss).1
  refine ⟨C', h2, ?_⟩
  unfold m_cJT_placeAt_J45 m_cJT_placeAt_J61
  cases hf : A.flB r s with
  | true =>
    rw [hf] at h1
    rw [if_pos rfl] at h1
    simp (disch := omega) only [gd_ok, cl_nI, nI_s, nI_add, nI_leI, nI_ltI, nI_eq, if_pos, if_neg, q0, q1, q2, q3, q4, q5, q6, q7, q8, q9, q10, CS.i_setI, CS.l_setI, CS.r_setI, CS.a_setI, CS.q_setI, CS.z_setI, CS.i_setL, CS.l_setL, CS.r_setL, CS.a_setL, CS.q_setL, CS.z_setL, CS.i_setR, CS.l_setR, CS.r_setR, CS.a_setR, CS.q_setR, CS.z_setR, CS.i_setA, CS.l_setA, CS.r_setA, CS.a_setA, CS.q_setA, CS.z_setA, CS.i_setQ, CS.l_setQ, CS.r_setQ, CS.a_setQ, CS.q_setQ, CS.z_setQ, CS.i_setF, CS.l_setF, CS.r_setF, CS.a_setF, CS.q_setF, CS.z_setF, CS.i_new, CS.l_new, CS.r_new, CS.a_new, CS.q_new, CS.z_new, Nat.reduceEqDiff, false_and, true_and, and_false, and_true, if_true, if_false, b2_0, b2_1, b2_nn, n0_or, n1_or, n10, n01, dec1, dec2, ob_ok, oe_l, oe_r, gl_ok, gle_ok, gn_s, gv_ok, gv_none, on_none, onSome,u11, u10, u7, s3, h1, if_true]
  | false =>
    rw [hf] at h1
    rw [if_neg (by decide)] at h1
    simp (disch := omega) only [gd_ok, cl_nI, nI_s, nI_add, nI_leI, nI_ltI, nI_eq, if_pos, if_neg, q0, q1, q2, q3, q4, q5, q6, q7, q8, q9, q10, CS.i_setI, CS.l_setI, CS.r_setI, CS.a_setI, CS.q_setI, CS.z_setI, CS.i_setL, CS.l_setL, CS.r_setL, CS.a_setL, CS.q_setL, CS.z_setL, CS.i_setR, CS.l_setR, CS.r_setR, CS.a_setR, CS.q_setR, CS.z_setR, CS.i_setA, CS.l_setA, CS.r_setA, CS.a_setA, CS.q_setA, CS.z_setA, CS.i_setQ, CS.l_setQ, CS.r_setQ, CS.a_setQ, CS.q_setQ, CS.z_setQ, CS.i_setF, CS.l_setF, CS.r_setF, CS.a_setF, CS.q_setF, CS.z_setF, CS.i_new, CS.l_new, CS.r_new, CS.a_new, CS.q_new, CS.z_new, Nat.reduceEqDiff, false_and, true_and, and_false, and_true, if_true, if_false, b2_0, b2_1, b2_nn, n0_or, n1_or, n10, n01, dec1, dec2, ob_ok, oe_l, oe_r, gl_ok, gle_ok, gn_s, gv_ok, gv_none, on_none, onSome,u11, u10, u7, s3, h1]
    rw [if_neg (by decide)]
end CPL
