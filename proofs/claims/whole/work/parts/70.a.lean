/-! BOTH STATES TOGETHER: what is given, what goes out; the whole invariant; the class's first steps of a call. -/
def RIO (S : MS) (C : CS) (bi bf bs bo : List Nat) (ji jf js a : Nat) : Prop :=
  (C.r 11 8 0 = some ji ∧ C.r 11 9 0 = some jf ∧ C.r 11 10 0 = some js ∧ 4 ≤ ji ∧ 4 ≤ jf ∧ 4 ≤ js ∧ ji ≠ jf ∧ jf ≠ js ∧ ji ≠ js) ∧
  (RW C ji bi.length ∧ RB C ji 0 bi ∧ S.i 4 = nI bi.length ∧ byts S 1 0 bi ∧ bi.length ≤ 8192) ∧
  (RW C jf bf.length ∧ RB C jf 0 bf ∧ S.i 5 = nI bf.length ∧ byts S 2 0 bf ∧ bf.length ≤ 8192) ∧
  (RW C js bs.length ∧ RB C js 0 bs ∧ S.i 6 = nI bs.length ∧ byts S 3 0 bs ∧ bs.length ≤ 8192) ∧
  (RW C 3 bo.length ∧ RB C 3 0 bo ∧ S.i 41 = nI bo.length ∧ byts S 40 0 bo) ∧
  (S.i 7 = nI a ∧ C.i 11 11 0 = nI a ∧ a ≤ 2) ∧ S.i 42 = C.i 11 12 0 ∧ ∃ sv : Bool, S.i 43 = b2 sv ∧ C.i 11 7 0 = b2 sv
/-- what the reference leaves: fields and rows of what is given and goes out -/
def frS (S S' : MS) : Prop := (∀ j, j = 4 ∨ j = 5 ∨ j = 6 ∨ j = 7 ∨ j = 41 ∨ j = 42 ∨ j = 43 → S'.i j = S.i j) ∧ ∀ k, k = 1 ∨ k = 2 ∨ k = 3 ∨ k = 40 → S'.a k = S.a k
theorem frS.refl {S : MS} : frS S S := ⟨fun _ _ => rfl, fun _ _ => rfl⟩
theorem frS.trans {S S' S'' : MS} (h : frS S S') (g : frS S' S'') : frS S S'' := ⟨fun j hj => (g.1 j hj).trans (h.1 j hj), fun k hk => (g.2 k hk).trans (h.2 k hk)⟩
theorem frA.toS {S S' : MS} (h : frA S S') : frS S S' := ⟨fun j hj => h.1 j (by omega) (by omega) (by omega) (by omega), fun k hk => h.2.1 k (by omega)⟩
theorem frS_setI {S : MS} {k : Nat} {v : Int32} (h : k ≠ 4 ∧ k ≠ 5 ∧ k ≠ 6 ∧ k ≠ 7 ∧ k ≠ 41 ∧ k ≠ 42 ∧ k ≠ 43) : frS S (S.setI k v) := ⟨fun j hj => by rw [MS.i_setI, if_neg (by omega)], fun k hk => by rw [MS.a_setI]⟩
theorem frS_setA {S : MS} {k : Nat} {f : Nat → Int32} (h : k ≠ 1 ∧ k ≠ 2 ∧ k ≠ 3 ∧ k ≠ 40) : frS S (S.setA k f) := ⟨fun j hj => by rw [MS.i_setA], fun j hj => by rw [MS.a_setA, if_neg (by omega)]⟩
section IO
variable {S S' : MS} {N : Nat → Nat} {C C' : CS} {A : AS} {r rd : Nat} {bi bf bs bo : List Nat} {ji jf js a : Nat}
theorem RIO.fr (h : RIO S C bi bf bs bo ji jf js a) (hS : frS S S') (hC : frC C C') : RIO S' C' bi bf bs bo ji jf js a := by
  obtain ⟨⟨a1, a2, a3, a4, a5, a6, a7⟩, ⟨b1, b2, b3, b4, b5⟩, ⟨c1, c2, c3, c4, c5⟩, ⟨d1, d2, d3, d4, d5⟩, ⟨e1, e2, e3, e4⟩, ⟨f1, f2, f3⟩, g1, sv, g2, g3⟩ := h
  refine ⟨⟨by rw [hC.2.1]; exact a1, by rw [hC.2.1]; exact a2, by rw [hC.2.1]; exact a3, a4, a5, a6, a7⟩, ⟨RW_fr hC (by omega) b1, RB_fr hC (by omega) b2, by rw [hS.1 4 (by simp)]; exact b3, byts_fr b4 (hS.2 1 (by simp)), b5⟩,
    ⟨RW_fr hC (by omega) c1, RB_fr hC (by omega) c2, by rw [hS.1 5 (by simp)]; exact c3, byts_fr c4 (hS.2 2 (by simp)), c5⟩, ⟨RW_fr hC (by omega) d1, RB_fr hC (by omega) d2, by rw [hS.1 6 (by simp)]; exact d3, byts_fr d4 (hS.2 3 (by simp)), d5⟩,
    ⟨RW_fr hC (by omega) e1, RB_fr hC (by omega) e2, by rw [hS.1 41 (by simp)]; exact e3, byts_fr e4 (hS.2 40 (by simp))⟩, ⟨by rw [hS.1 7 (by simp)]; exact f1, by rw [hC.1]; exact f2, f3⟩, by rw [hS.1 42 (by simp), hC.1]; exact g1, sv, by rw [hS.1 43 (by simp)]; exact g2, by rw [hC.1]; exact g3⟩
/-- what was given is taken -/
theorem RIO.take (h : RIO S C bi bf bs bo ji jf js a) : RIO (S.setI 7 (nI 0)) (C.setI 11 11 0 (nI 0)) bi bf bs bo ji jf js 0 := by
  obtain ⟨a1, b, c, d, e, f, g1, g2⟩ := h
  exact ⟨a1, b, c, d, e, ⟨rfl, rfl, by omega⟩, g1, g2⟩
theorem RC_take {v : Int32} {f : Nat} (G : RC N C A rd) : RC N (C.setI 11 f 0 v) A rd := G
theorem cJ_take (h11 : N 11 = 1) (h : C.i 11 11 0 = nI a) : m_cJT_takeArguments N 0 C = some (C.setI 11 11 0 (nI 0), nI a) := by
  unfold m_cJT_takeArguments m_cJT_takeArguments_J0
  simp (disch := omega) only [gd_ok, cl_nI, nI_s, nI_add, nI_leI, nI_ltI, nI_eq, if_pos, if_neg, q0, q1, q2, q3, q4, q5, q6, q7, q8, q9, q10, CS.i_setI, CS.l_setI, CS.r_setI, CS.a_setI, CS.q_setI, CS.z_setI, CS.i_setL, CS.l_setL, CS.r_setL, CS.a_setL, CS.q_setL, CS.z_setL, CS.i_setR, CS.l_setR, CS.r_setR, CS.a_setR, CS.q_setR, CS.z_setR, CS.i_setA, CS.l_setA, CS.r_setA, CS.a_setA, CS.q_setA, CS.z_setA, CS.i_setQ, CS.l_setQ, CS.r_setQ, CS.a_setQ, CS.q_setQ, CS.z_setQ, CS.i_setF, CS.l_setF, CS.r_setF, CS.a_setF, CS.q_setF, CS.z_setF, CS.i_new, CS.l_new, CS.r_new, CS.a_new, CS.q_new, CS.z_new, Nat.reduceEqDiff, false_and, true_and, and_false, and_true, if_true, if_false, b2_0, b2_1, b2_nn, n0_or, n1_or, n10, n01, dec1, dec2, ob_ok, oe_l, oe_r, gl_ok, gle_ok, gn_s, gv_ok, gv_none, on_none, onSome,h11, h]
/-- the view of replica r -/
theorem cJ_shown (G : RC N C A rd) (hA : AI A) (hr : r < 8) : ∃ C', m_cJT_shown N 0 C (nI r) = some (.inl (C', some r)) ∧ RC N C' A rd ∧ VC C' A r ∧ frC C C' := by
  obtain ⟨u0, u1, u2, u3, u4, u5, u6, u7, u8, u9, u10, u11, u12, u13, u14, u15, u16, u17, u18⟩ := G.nn
  obtain ⟨s1, s2, s3, s4, s5, s6, s7, s8, s9, s10, s11, s12, s13, s14, s15, s16, s17, s18, s19, s20, s21⟩ := G.st
  have hsz := G.sz.2.2.2.2.2.2.2.2.2.2.2.2.1 r hr
  have hz12 := G.sz.2.2.2.2.2.2.2.2.2.2.2.2.2.1
  have hz17 := G.sz.2.2.2.1
  have hrp := G.rp r hr
  have c0 : (nI 0).toNatClampNeg = 0 := by decide
  have c8 : (nI 8).toNatClampNeg = 8 := by decide
  cases hl : A.lk r with
  | none =>
    have hlr : C.r 4 4 r = none := by rw [hrp.2.2.2.1, hl]
    let C' : CS := (C.setF 12 8 (va_cpy (C.a 12 r) (C.a 12 8) 0 0 8)).setA 12 8 r ((va_cpy (C.a 12 r) (C.a 12 8) 0 0 8) r + nI 1)
    have hfr : frC C C' := by
      refine ⟨fun f j => rfl, fun f j => rfl, fun f j => rfl, fun f j => rfl, fun f j _ => rfl, fun f j => rfl, fun j p _ => rfl, fun j => rfl, fun f j => rfl, fun f j => rfl, fun f j => rfl, fun f j => rfl⟩
    refine ⟨C', ?_, ?_, ?_, hfr⟩
    · have hz8 := hz12 8 (by omega)
      have hzr := hz12 r (by omega)
      unfold m_cJT_shown m_cJT_shown_J0 m_cVw_show m_cVw_show_J0 m_cVw_show_J21 m_cVw_show_J54
      simp (disch := omega) only [gd_ok, cl_nI, nI_s, nI_add, nI_leI, nI_ltI, nI_eq, if_pos, if_neg, q0, q1, q2, q3, q4, q5, q6, q7, q8, q9, q10, CS.i_setI, CS.l_setI, CS.r_setI, CS.a_setI, CS.q_setI, CS.z_setI, CS.i_setL, CS.l_setL, CS.r_setL, CS.a_setL, CS.q_setL, CS.z_setL, CS.i_setR, CS.l_setR, CS.r_setR, CS.a_setR, CS.q_setR, CS.z_setR, CS.i_setA, CS.l_setA, CS.r_setA, CS.a_setA, CS.q_setA, CS.z_setA, CS.i_setQ, CS.l_setQ, CS.r_setQ, CS.a_setQ, CS.q_setQ, CS.z_setQ, CS.i_setF, CS.l_setF, CS.r_setF, CS.a_setF, CS.q_setF, CS.z_setF, CS.i_new, CS.l_new, CS.r_new, CS.a_new, CS.q_new, CS.z_new, Nat.reduceEqDiff, false_and, true_and, and_false, and_true, if_true, if_false, b2_0, b2_1, b2_nn, n0_or, n1_or, n10, n01, dec1, dec2, ob_ok, oe_l, oe_r, gl_ok, gle_ok, gn_s, gv_ok, gv_none, on_none, onSome,u11, u17, s2, hz17, hsz.2.2.2.2.2.2, u4, s3, u10, hlr, hsz.2.1, s13, u12, hz8, hzr, hsz.1, c0, c8]
      rfl
    · exact G.scr (by rw [nz_clock, nz_clockF]) G.2
    · intro a ha
      show ((C.setF 12 8 (va_cpy (C.a 12 r) (C.a 12 8) 0 0 8)).setA 12 8 r ((va_cpy (C.a 12 r) (C.a 12 8) 0 0 8) r + nI 1)).a 12 8 a = _
      rw [CS.a_setA, CS.a_setF]
      have hcp : ∀ b, b < 8 → va_cpy (C.a 12 r) (C.a 12 8) 0 0 8 b = nI (A.hv r b) := by
        intro b hb
        unfold va_cpy
        rw [if_pos (by omega), show 0 + (b - 0) = b by omega]
        exact hrp.1 b hb
      rw [vw_none hl]
      by_cases e : a = r
      · rw [if_pos ⟨rfl, rfl, e⟩, if_pos e, hcp r hr, nI_add, e]
      · rw [if_neg (by omega), if_pos ⟨rfl, rfl⟩, if_neg e, hcp a ha]
        rfl
  | some c =>
    have hlr : C.r 4 4 r = some c := by rw [hrp.2.2.2.1, hl]
    have hc : c < A.m := (hA.2.1.2.2.2.2.2.2.2.2.1 r c hl).1
    have hcg := G.cg.2.2.2 c hc
    let C' : CS := C.setF 12 8 (va_cpy (C.a 12 (10 + c)) (C.a 12 8) 0 0 8)
    have hfr : frC C C' := by
      refine ⟨fun f j => rfl, fun f j => rfl, fun f j => rfl, fun f j => rfl, fun f j _ => rfl, fun f j => rfl, fun j p _ => rfl, fun j => rfl, fun f j => rfl, fun f j => rfl, fun f j => rfl, fun f j => rfl⟩
    refine ⟨C', ?_, ?_, ?_, hfr⟩
    · have hz8 := hz12 8 (by omega)
      have hzc := hz12 (10 + c) (by omega)
      unfold m_cJT_shown m_cJT_shown_J0 m_cVw_show m_cVw_show_J0 m_cVw_show_J21 m_cVw_show_J54
      simp (disch := omega) only [gd_ok, cl_nI, nI_s, nI_add, nI_leI, nI_ltI, nI_eq, if_pos, if_neg, q0, q1, q2, q3, q4, q5, q6, q7, q8, q9, q10, CS.i_setI, CS.l_setI, CS.r_setI, CS.a_setI, CS.q_setI, CS.z_setI, CS.i_setL, CS.l_setL, CS.r_setL, CS.a_setL, CS.q_setL, CS.z_setL, CS.i_setR, CS.l_setR, CS.r_setR, CS.a_setR, CS.q_setR, CS.z_setR, CS.i_setA, CS.l_setA, CS.r_setA, CS.a_setA, CS.q_setA, CS.z_setA, CS.i_setQ, CS.l_setQ, CS.r_setQ, CS.a_setQ, CS.q_setQ, CS.z_setQ, CS.i_setF, CS.l_setF, CS.r_setF, CS.a_setF, CS.q_setF, CS.z_setF, CS.i_new, CS.l_new, CS.r_new, CS.a_new, CS.q_new, CS.z_new, Nat.reduceEqDiff, false_and, true_and, and_false, and_true, if_true, if_false, b2_0, b2_1, b2_nn, n0_or, n1_or, n10, n01, dec1, dec2, ob_ok, oe_l, oe_r, gl_ok, gle_ok, gn_s, gv_ok, gv_none, on_none, onSome,u11, u17, s2, hz17, hsz.2.2.2.2.2.2, u4, s3, u10, hlr, u0, hcg.2.2.2.2.2.2.2.1, s13, u12, hz8, hzc, c0, c8]
      rfl
    · exact G.scr nz_clockF G.2
    · intro a ha
      show (C.setF 12 8 (va_cpy (C.a 12 (10 + c)) (C.a 12 8) 0 0 8)).a 12 8 a = _
      rw [CS.a_setF, if_pos ⟨rfl, rfl⟩]
      unfold va_cpy AS.vw
      rw [if_pos (by omega), show 0 + (a - 0) = a by omega, hl]
      exact hcg.2.2.2.2.2.2.2.2.1 a ha
theorem cJ_shownN {x : Int32} (h : x < nI 0 ∨ nI 8 ≤ x) : m_cJT_shown N 0 C x = some (.inr (C, 1)) := by
  unfold m_cJT_shown m_cJT_shown_J0 m_cJT_shown_J10
  simp only [q0, q8]
  by_cases c1 : x < nI 0
  · rw [if_pos c1]
  · rw [if_neg c1, if_neg (Int32.not_lt.mpr (h.resolve_left c1))]
theorem cJ_needAll (G : RC N C A rd) (hr : r < 8) : m_cJT_needAll N 0 C r = some (if A.lk r = none then .inl C else .inr (C, 2)) := by
  obtain ⟨u0, u1, u2, u3, u4, u5, u6, u7, u8, u9, u10, u11, u12, u13, u14, u15, u16, u17, u18⟩ := G.nn
  have hrp := (G.rp r hr).2.2.2.1
  unfold m_cJT_needAll m_cJT_needAll_J0
  simp (disch := omega) only [gd_ok, cl_nI, nI_s, nI_add, nI_leI, nI_ltI, nI_eq, if_pos, if_neg, q0, q1, q2, q3, q4, q5, q6, q7, q8, q9, q10, CS.i_setI, CS.l_setI, CS.r_setI, CS.a_setI, CS.q_setI, CS.z_setI, CS.i_setL, CS.l_setL, CS.r_setL, CS.a_setL, CS.q_setL, CS.z_setL, CS.i_setR, CS.l_setR, CS.r_setR, CS.a_setR, CS.q_setR, CS.z_setR, CS.i_setA, CS.l_setA, CS.r_setA, CS.a_setA, CS.q_setA, CS.z_setA, CS.i_setQ, CS.l_setQ, CS.r_setQ, CS.a_setQ, CS.q_setQ, CS.z_setQ, CS.i_setF, CS.l_setF, CS.r_setF, CS.a_setF, CS.q_setF, CS.z_setF, CS.i_new, CS.l_new, CS.r_new, CS.a_new, CS.q_new, CS.z_new, Nat.reduceEqDiff, false_and, true_and, and_false, and_true, if_true, if_false, b2_0, b2_1, b2_nn, n0_or, n1_or, n10, n01, dec1, dec2, ob_ok, oe_l, oe_r, gl_ok, gle_ok, gn_s, gv_ok, gv_none, on_none, onSome,u4, hrp]
  cases hl : A.lk r with
  | none => simp [on_none]
  | some c => simp [onSome]
theorem cJ_needRoom (G : RC N C A rd) (hA : AI A) {x y : Nat} (hx : x < 2 ^ 30) (hy : y < 2 ^ 30) : m_cJT_needRoom N 0 C (nI x) (nI y) = some (if 4000 < A.n + x ∨ 24576 < A.kn + y then .inr (C, 4) else .inl C) := by
  obtain ⟨u0, u1, u2, u3, u4, u5, u6, u7, u8, u9, u10, u11, u12, u13, u14, u15, u16, u17, u18⟩ := G.nn
  obtain ⟨s1, s2, s3, s4, s5, s6, s7, s8, s9, s10, s11, s12, s13, s14, s15, s16, s17, s18, s19, s20, s21⟩ := G.st
  have h1 := G.cg.2.1
  have h2 := G.kp.1
  have h31 := hA.1.1
  have h32 := hA.1.2.2.1
  unfold m_cJT_needRoom m_cJT_needRoom_J0 m_cJT_needRoom_J33
  simp (disch := omega) only [gd_ok, cl_nI, nI_s, nI_add, nI_leI, nI_ltI, nI_eq, if_pos, if_neg, q0, q1, q2, q3, q4, q5, q6, q7, q8, q9, q10, CS.i_setI, CS.l_setI, CS.r_setI, CS.a_setI, CS.q_setI, CS.z_setI, CS.i_setL, CS.l_setL, CS.r_setL, CS.a_setL, CS.q_setL, CS.z_setL, CS.i_setR, CS.l_setR, CS.r_setR, CS.a_setR, CS.q_setR, CS.z_setR, CS.i_setA, CS.l_setA, CS.r_setA, CS.a_setA, CS.q_setA, CS.z_setA, CS.i_setQ, CS.l_setQ, CS.r_setQ, CS.a_setQ, CS.q_setQ, CS.z_setQ, CS.i_setF, CS.l_setF, CS.r_setF, CS.a_setF, CS.q_setF, CS.z_setF, CS.i_new, CS.l_new, CS.r_new, CS.a_new, CS.q_new, CS.z_new, Nat.reduceEqDiff, false_and, true_and, and_false, and_true, if_true, if_false, b2_0, b2_1, b2_nn, n0_or, n1_or, n10, n01, dec1, dec2, ob_ok, oe_l, oe_r, gl_ok, gle_ok, gn_s, gv_ok, gv_none, on_none, onSome,u11, u8, u5, s1, s10, h1, h2, show (4000 : Int32) = nI 4000 from by decide, show (24576 : Int32) = nI 24576 from by decide]
  by_cases c1 : 4000 < A.n + x
  · rw [if_pos c1, if_pos (Or.inl c1)]
  · rw [if_neg c1]
    by_cases c2 : A.kn + y ≤ 24576
    · rw [if_pos c2, if_neg (by omega)]
    · rw [if_neg c2, if_pos (by omega)]
theorem pS_full (hR : RS S A) (hA : AI A) {x y : Nat} (hx : x < 2 ^ 30) (hy : y < 2 ^ 30) : m_rfull S (nI x) (nI y) = some (S, b2 (decide (4000 < A.n + x ∨ 24576 < A.kn + y))) := by
  have h31 := hA.1.1
  have h32 := hA.1.2.2.1
  unfold m_rfull m_rfull_J0 m_rfull_J24 m_rfull_J29
  simp (disch := omega) only [gd_ok, cl_nI, nI_s, nI_add, nI_leI, nI_ltI, nI_eq, if_pos, if_neg, q0, q1, q2, q3, q4, q5, q6, q7, q8, q9, q10, MS.i_setI, MS.a_setI, MS.n_setI, MS.i_setA, MS.a_setA, MS.n_setA, MS.i_setN, MS.a_setN, MS.n_setN, ↓reduceIte, Nat.reduceEqDiff, b2_0, b2_1, b2_nn, n0_or, n1_or, n10, n01, dec1, dec2, ob_ok, oe_l, oe_r,hR.1.1, hR.1.2.2, show (4000 : Int32) = nI 4000 from by decide, show (24576 : Int32) = nI 24576 from by decide]
  by_cases c1 : 4000 < A.n + x
  · rw [if_pos c1, decide_eq_true (Or.inl c1)]; rfl
  · rw [if_neg c1]
    by_cases c2 : A.kn + y ≤ 24576
    · rw [if_pos c2, decide_eq_false (by omega)]; rfl
    · rw [if_neg c2, decide_eq_true (by omega)]; rfl
theorem pS_isKey {k : Nat} (hk : k < 2 ^ 31) : m_risKey S (nI k) = some (S, b2 (decide (1 ≤ k ∧ k ≤ 64))) := by
  unfold m_risKey m_risKey_J0 m_risKey_J15 m_risKey_J16
  simp (disch := omega) only [gd_ok, cl_nI, nI_s, nI_add, nI_leI, nI_ltI, nI_eq, if_pos, if_neg, q0, q1, q2, q3, q4, q5, q6, q7, q8, q9, q10, MS.i_setI, MS.a_setI, MS.n_setI, MS.i_setA, MS.a_setA, MS.n_setA, MS.i_setN, MS.a_setN, MS.n_setN, ↓reduceIte, Nat.reduceEqDiff, b2_0, b2_1, b2_nn, n0_or, n1_or, n10, n01, dec1, dec2, ob_ok, oe_l, oe_r,show (64 : Int32) = nI 64 from by decide]
  by_cases c1 : k < 1
  · rw [if_pos c1, decide_eq_false (by omega)]; rfl
  · rw [if_neg c1]
    by_cases c2 : 64 < k
    · rw [if_pos c2, decide_eq_false (by omega)]; rfl
    · rw [if_neg c2, decide_eq_true (by omega)]; rfl
end IO
