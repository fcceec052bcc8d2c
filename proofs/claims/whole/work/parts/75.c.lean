section CHC
variable {S S' : MS} {N : Nat → Nat} {C C' : CS} {A : AS} {r rd : Nat} {bi bf bs bo : List Nat} {ji jf js a : Nat}
theorem RIO_harm (h : RIO S C bi bf bs bo ji jf js a) {p y : Nat} (hp : p < bo.length) (hy : y < 256) : RIO (S.setA 40 (upd (S.a 40) p (sb y))) (C.setA 13 3 p (sb y)) bi bf bs (bo.set p y) ji jf js a := by
  obtain ⟨⟨a1, a2, a3, a4, a5, a6, a7⟩, ⟨b1, b2', b3, b4, b5⟩, ⟨c1, c2, c3, c4, c5⟩, ⟨d1, d2, d3, d4, d5⟩, ⟨g1, g2, g3, g4⟩, f, k⟩ := h
  have hrb : ∀ {j : Nat} {l : List Nat}, 4 ≤ j → RB C j 0 l → RB (C.setA 13 3 p (sb y)) j 0 l := by
    intro j l hj h i hi
    rw [CS.a_setA, if_neg (by omega)]
    exact h i hi
  have hby : ∀ {b : Nat} {l : List Nat}, b ≠ 40 → byts S b 0 l → byts (S.setA 40 (upd (S.a 40) p (sb y))) b 0 l := by
    intro b l hb h
    exact byts_fr h (by rw [MS.a_setA, if_neg hb])
  refine ⟨⟨a1, a2, a3, a4, a5, a6, a7⟩, ⟨b1, hrb a4 b2', b3, hby (by decide) b4, b5⟩, ⟨c1, hrb a5 c2, c3, hby (by decide) c4, c5⟩, ⟨d1, hrb a6 d2, d3, hby (by decide) d4, d5⟩, ⟨?_, ?_, ?_, ?_⟩, f, k⟩
  · rw [List.length_set]; exact g1
  · intro i hi
    rw [List.length_set] at hi
    rw [CS.a_setA, List.getElem_set]
    by_cases e : p = i
    · rw [if_pos e, if_pos (by omega)]
      exact ⟨hy, rfl⟩
    · rw [if_neg e, if_neg (by omega)]
      exact g2 i hi
  · rw [List.length_set]; exact g3
  · intro i hi
    rw [List.length_set] at hi
    rw [MS.a_setA, if_pos rfl, List.getElem_set]
    unfold upd
    by_cases e : p = i
    · rw [if_pos e, if_pos (by omega)]
      exact ⟨hy, rfl⟩
    · rw [if_neg e, if_neg (by omega)]
      exact g4 i hi
theorem call_harm (hI : INV S N C A rd) (x1 x2 : Int32) :
    (∃ C' S', m_cJT_harm N 0 C x1 x2 = some (.inl C') ∧ m_rharm S x1 x2 = some S' ∧ S'.i 0 = nI 0 ∧ INV S' N C' A rd) ∨
    (∃ t k, m_cJT_harm N 0 C x1 x2 = some (.inr (C, t)) ∧ ([(1, 1), (3, 2)] : List (Nat × Int32)).lookup t = some (nI k) ∧ m_rharm S x1 x2 = some (S.setI 0 (nI k)) ∧ INV (S.setI 0 (nI k)) N C A rd) := by
  obtain ⟨hR, G, hA, bi, bf, bs, bo, ji, jf, js, a, hio⟩ := hI
  obtain ⟨u0, u1, u2, u3, u4, u5, u6, u7, u8, u9, u10, u11, u12, u13, u14, u15, u16, u17, u18⟩ := G.nn
  obtain ⟨s1, s2, s3, s4, s5, s6, s7, s8, s9, s10, s11, s12, s13, s14, s15, s16, s17, s18, s19, s20, s21⟩ := G.st
  have hI' : ∀ k, INV (S.setI 0 (nI k)) N C A rd := fun k => ⟨hR.setI rfl, G, hA, bi, bf, bs, bo, ji, jf, js, a, hio.fr (frS_setI (by decide)) frC.refl⟩
  have hio1 : RIO (S.setI 0 (nI 0)) C bi bf bs bo ji jf js a := hio.fr (frS_setI (by decide)) frC.refl
  obtain ⟨_, _, _, _, ⟨g1, g2, g3, g4⟩, _⟩ := hio
  obtain ⟨z1, z2, z3, z4, z5⟩ := g1
  unfold m_cJT_harm m_cJT_harm_J0 m_rharm m_rharm_J0
  generalize (1 : Int32) <<< (x2 &&& 31) = w
  by_cases c1 : x2 < nI 0
  · right
    exact ⟨1, 1, by rw [if_pos (show x2 < 0 from c1)]; rfl, rfl, by rw [if_pos (show x2 < 0 from c1)]; rfl, hI' 1⟩
  rw [if_neg (show ¬ x2 < 0 from c1), if_neg (show ¬ x2 < 0 from c1)]
  by_cases c2 : x2 ≤ nI 7
  · rw [if_pos (show x2 ≤ 7 from c2), if_pos (show x2 ≤ 7 from c2)]
    by_cases c3 : x1 < nI 0
    · right
      exact ⟨3, 2, by rw [if_pos (show x1 < 0 from c3)]; rfl, rfl, by rw [if_pos (show x1 < 0 from c3)]; rfl, hI' 2⟩
    rw [if_neg (show ¬ x1 < 0 from c3), if_neg (show ¬ x1 < 0 from c3)]
    obtain ⟨p, hp31, rfl⟩ := nI_of c3
    by_cases c4 : p < bo.length
    · left
      obtain ⟨y, hy, hsb⟩ := sb_of (sb bo[p] ^^^ w).toInt8
      have ga : C.a 13 3 p = sb bo[p] := by
        have := (g2 p c4).2
        rw [Nat.zero_add] at this
        exact this
      have gs : S.a 40 p = sb bo[p] := by
        have := (g4 p c4).2
        rw [Nat.zero_add] at this
        exact this
      refine ⟨C.setA 13 3 p (sb y), (S.setI 0 (nI 0)).setA 40 (upd ((S.setI 0 (nI 0)).a 40) p (sb y)), ?_, ?_, by rw [MS.i_setA, MS.i_setI, if_pos rfl], ⟨(hR.setI rfl).setA rfl, RC_row3 G, hA, bi, bf, bs, bo.set p y, ji, jf, js, a, RIO_harm hio1 c4 hy⟩⟩
      · simp (disch := omega) only [gd_ok, cl_nI, nI_s, nI_add, nI_leI, nI_ltI, nI_eq, if_pos, if_neg, q0, q1, q2, q3, q4, q5, q6, q7, q8, q9, q10, CS.i_setI, CS.l_setI, CS.r_setI, CS.a_setI, CS.q_setI, CS.z_setI, CS.i_setL, CS.l_setL, CS.r_setL, CS.a_setL, CS.q_setL, CS.z_setL, CS.i_setR, CS.l_setR, CS.r_setR, CS.a_setR, CS.q_setR, CS.z_setR, CS.i_setA, CS.l_setA, CS.r_setA, CS.a_setA, CS.q_setA, CS.z_setA, CS.i_setQ, CS.l_setQ, CS.r_setQ, CS.a_setQ, CS.q_setQ, CS.z_setQ, CS.i_setF, CS.l_setF, CS.r_setF, CS.a_setF, CS.q_setF, CS.z_setF, CS.i_new, CS.l_new, CS.r_new, CS.a_new, CS.q_new, CS.z_new, Nat.reduceEqDiff, false_and, true_and, and_false, and_true, if_true, if_false, b2_0, b2_1, b2_nn, n0_or, n1_or, n10, n01, dec1, dec2, ob_ok, oe_l, oe_r, gl_ok, gle_ok, gn_s, gv_ok, gv_none, on_none, onSome,u11, u5, s7, z3, z2, u13, ga, hsb, bytes_nar]
      · simp (disch := omega) only [gd_ok, cl_nI, nI_s, nI_add, nI_leI, nI_ltI, nI_eq, if_pos, if_neg, q0, q1, q2, q3, q4, q5, q6, q7, q8, q9, q10, MS.i_setI, MS.a_setI, MS.n_setI, MS.i_setA, MS.a_setA, MS.n_setA, MS.i_setN, MS.a_setN, MS.n_setN, ↓reduceIte, Nat.reduceEqDiff, b2_0, b2_1, b2_nn, n0_or, n1_or, n10, n01, dec1, dec2, ob_ok, oe_l, oe_r,g3, gs, xor_b, hsb, bytes_nar]
    · right
      refine ⟨3, 2, ?_, rfl, ?_, hI' 2⟩
      · unfold m_cJT_harm_J33
        simp (disch := omega) only [gd_ok, cl_nI, nI_s, nI_add, nI_leI, nI_ltI, nI_eq, if_pos, if_neg, q0, q1, q2, q3, q4, q5, q6, q7, q8, q9, q10, CS.i_setI, CS.l_setI, CS.r_setI, CS.a_setI, CS.q_setI, CS.z_setI, CS.i_setL, CS.l_setL, CS.r_setL, CS.a_setL, CS.q_setL, CS.z_setL, CS.i_setR, CS.l_setR, CS.r_setR, CS.a_setR, CS.q_setR, CS.z_setR, CS.i_setA, CS.l_setA, CS.r_setA, CS.a_setA, CS.q_setA, CS.z_setA, CS.i_setQ, CS.l_setQ, CS.r_setQ, CS.a_setQ, CS.q_setQ, CS.z_setQ, CS.i_setF, CS.l_setF, CS.r_setF, CS.a_setF, CS.q_setF, CS.z_setF, CS.i_new, CS.l_new, CS.r_new, CS.a_new, CS.q_new, CS.z_new, Nat.reduceEqDiff, false_and, true_and, and_false, and_true, if_true, if_false, b2_0, b2_1, b2_nn, n0_or, n1_or, n10, n01, dec1, dec2, ob_ok, oe_l, oe_r, gl_ok, gle_ok, gn_s, gv_ok, gv_none, on_none, onSome,u11, u5, s7, z3]
      · unfold m_rharm_J28
        simp (disch := omega) only [gd_ok, cl_nI, nI_s, nI_add, nI_leI, nI_ltI, nI_eq, if_pos, if_neg, q0, q1, q2, q3, q4, q5, q6, q7, q8, q9, q10, MS.i_setI, MS.a_setI, MS.n_setI, MS.i_setA, MS.a_setA, MS.n_setA, MS.i_setN, MS.a_setN, MS.n_setN, ↓reduceIte, Nat.reduceEqDiff, b2_0, b2_1, b2_nn, n0_or, n1_or, n10, n01, dec1, dec2, ob_ok, oe_l, oe_r,g3]
  · right
    exact ⟨1, 1, by rw [if_neg (show ¬ x2 ≤ 7 from c2)]; rfl, rfl, by rw [if_neg (show ¬ x2 ≤ 7 from c2)]; rfl, hI' 1⟩
end CHC
