/-! THE CALL set. -/
section CSET
variable {S S' : MS} {N : Nat → Nat} {C C' : CS} {A : AS} {r rd : Nat} {bi bf bs bo : List Nat} {ji jf js a : Nat}
/-- both states are those of A -/
def INV (S : MS) (N : Nat → Nat) (C : CS) (A : AS) (rd : Nat) : Prop := RS S A ∧ RC N C A rd ∧ AI A ∧ ∃ bi bf bs bo ji jf js a, RIO S C bi bf bs bo ji jf js a
/-- a call of the class and the reference's end alike: hd says which number stands for which exception -/
def ALIKE (hd : List (Nat × Int32)) (A : AS) (rd : Nat) (N : Nat → Nat) (x : Option ((((Nat → Nat) × CS × Int32) ⊕ ((Nat → Nat) × CS × Nat)) × Nat × Nat)) (y : Option (MS × Int32)) : Prop :=
  (∃ N' C' v c z S' A' rd', x = some (.inl (N', C', v), c, z) ∧ y = some (S', v) ∧ S'.i 0 = nI 0 ∧ INV S' N' C' A' rd' ∧ A.n ≤ A'.n ∧ A.m ≤ A'.m ∧ rd ≤ rd' ∧ rd' ≤ rd + 50000 ∧ c ≤ 2 * (A'.n - A.n) + 3 * (A'.m - A.m) ∧ z ≤ 23 * (A'.n - A.n) + 40 * (A'.m - A.m)) ∨
  (∃ C' t k v S' rd', x = some (.inr (N, C', t), 1, 6) ∧ hd.lookup t = some k ∧ y = some (S', v) ∧ S'.i 0 = k ∧ INV S' N C' A rd' ∧ rd ≤ rd' ∧ rd' ≤ rd + 50000)
/-- a call ends with an exception: nothing but the view has changed -/
theorem alikeT {hd : List (Nat × Int32)} {x : Option ((((Nat → Nat) × CS × Int32) ⊕ ((Nat → Nat) × CS × Nat)) × Nat × Nat)} {y : Option (MS × Int32)} {t k rd' : Nat} {v : Int32} {S1 : MS} (hx : x = some (.inr (N, C', t), 1, 6)) (hy : y = some (S1.setI 0 (nI k), v)) (ht : hd.lookup t = some (nI k)) (hR : RS S1 A) (G : RC N C' A rd') (hA : AI A) (hio : RIO S1 C' bi bf bs bo ji jf js a) (h1 : rd ≤ rd') (h2 : rd' ≤ rd + 50000) : ALIKE hd A rd N x y :=
  Or.inr ⟨C', t, nI k, v, _, rd', hx, ht, hy, by rw [MS.i_setI, if_pos rfl], ⟨hR.setI rfl, G, hA, _, _, _, _, _, _, _, _, hio.fr (frS_setI (by decide)) frC.refl⟩, h1, h2⟩
theorem cJ_needKey (G : RC N C A rd) (hio : RIO S C bi bf bs bo ji jf js a) : m_cJT_needKey N 0 C = some (if 1 ≤ bf.length ∧ bf.length ≤ 64 then .inl C else .inr (C, 1)) := by
  obtain ⟨u0, u1, u2, u3, u4, u5, u6, u7, u8, u9, u10, u11, u12, u13, u14, u15, u16, u17, u18⟩ := G.nn
  obtain ⟨⟨a1, a2, a3, a4, a5, a6, a7⟩, _, ⟨c1, c2, c3, c4, c5⟩, _⟩ := hio
  have hj := c1.1
  unfold m_cJT_needKey m_cJT_needKey_J0 m_cJT_needKey_J23
  simp (disch := omega) only [gd_ok, cl_nI, nI_s, nI_add, nI_leI, nI_ltI, nI_eq, if_pos, if_neg, q0, q1, q2, q3, q4, q5, q6, q7, q8, q9, q10, CS.i_setI, CS.l_setI, CS.r_setI, CS.a_setI, CS.q_setI, CS.z_setI, CS.i_setL, CS.l_setL, CS.r_setL, CS.a_setL, CS.q_setL, CS.z_setL, CS.i_setR, CS.l_setR, CS.r_setR, CS.a_setR, CS.q_setR, CS.z_setR, CS.i_setA, CS.l_setA, CS.r_setA, CS.a_setA, CS.q_setA, CS.z_setA, CS.i_setQ, CS.l_setQ, CS.r_setQ, CS.a_setQ, CS.q_setQ, CS.z_setQ, CS.i_setF, CS.l_setF, CS.r_setF, CS.a_setF, CS.q_setF, CS.z_setF, CS.i_new, CS.l_new, CS.r_new, CS.a_new, CS.q_new, CS.z_new, Nat.reduceEqDiff, false_and, true_and, and_false, and_true, if_true, if_false, b2_0, b2_1, b2_nn, n0_or, n1_or, n10, n01, dec1, dec2, ob_ok, oe_l, oe_r, gl_ok, gle_ok, gn_s, gv_ok, gv_none, on_none, onSome,u11, u5, a2, c1.2.2.1, show (64 : Int32) = nI 64 from by decide]
  by_cases h1 : bf.length < 1
  · rw [if_pos h1, if_neg (by omega)]
  · rw [if_neg h1]
    by_cases h2 : bf.length ≤ 64
    · rw [if_pos h2, if_pos (by omega)]
    · rw [if_neg h2, if_neg (by omega)]
/-- sort and how much is given: the string is the second (others 1) or the first (others 0) -/
theorem cJ_needValue (G : RC N C A rd) (hio : RIO S C bi bf bs bo ji jf js a) {act g ot : Nat} (hact : act ≤ 8) (hg : g ≤ 2) (hot : ot ≤ 1) : m_cJT_needValue N 0 C (nI act) (nI g) (nI ot) = some (if g = ot + (if act = 4 then 1 else 0) ∧ (act = 4 → (if ot = 0 then bf.length else bs.length) ≤ 1024) then .inl C else .inr (C, 1)) := by
  obtain ⟨u0, u1, u2, u3, u4, u5, u6, u7, u8, u9, u10, u11, u12, u13, u14, u15, u16, u17, u18⟩ := G.nn
  obtain ⟨⟨a1, a2, a3, a4, a5, a6, a7⟩, _, ⟨c1, c2, c3, c4, c5⟩, ⟨d1, d2, d3, d4, d5⟩, _⟩ := hio
  have hj := c1.1
  have hj2 := d1.1
  unfold m_cJT_needValue m_cJT_needValue_J0 m_cJT_needValue_J10 m_cJT_needValue_J34 m_cJT_needValue_J38 m_cJT_needValue_J66 m_cJT_needValue_J83
  simp (disch := omega) only [gd_ok, cl_nI, nI_s, nI_add, nI_leI, nI_ltI, nI_eq, if_pos, if_neg, q0, q1, q2, q3, q4, q5, q6, q7, q8, q9, q10, CS.i_setI, CS.l_setI, CS.r_setI, CS.a_setI, CS.q_setI, CS.z_setI, CS.i_setL, CS.l_setL, CS.r_setL, CS.a_setL, CS.q_setL, CS.z_setL, CS.i_setR, CS.l_setR, CS.r_setR, CS.a_setR, CS.q_setR, CS.z_setR, CS.i_setA, CS.l_setA, CS.r_setA, CS.a_setA, CS.q_setA, CS.z_setA, CS.i_setQ, CS.l_setQ, CS.r_setQ, CS.a_setQ, CS.q_setQ, CS.z_setQ, CS.i_setF, CS.l_setF, CS.r_setF, CS.a_setF, CS.q_setF, CS.z_setF, CS.i_new, CS.l_new, CS.r_new, CS.a_new, CS.q_new, CS.z_new, Nat.reduceEqDiff, false_and, true_and, and_false, and_true, if_true, if_false, b2_0, b2_1, b2_nn, n0_or, n1_or, n10, n01, dec1, dec2, ob_ok, oe_l, oe_r, gl_ok, gle_ok, gn_s, gv_ok, gv_none, on_none, onSome,u11, u5, a2, a3, c1.2.2.1, d1.2.2.1, show (1024 : Int32) = nI 1024 from by decide]
  by_cases h4 : act = 4
  · simp only [h4, if_true, true_implies]
    by_cases h5 : g = ot + 1
    · rw [if_pos h5]
      by_cases h6 : ot = 0
      · simp only [h6, if_true]
        by_cases h7 : bf.length ≤ 1024
        · rw [if_pos h7, if_pos (by omega)]
        · rw [if_neg h7, if_neg (by omega)]
      · simp only [h6, if_false]
        by_cases h7 : bs.length ≤ 1024
        · rw [if_pos h7, if_pos (by omega)]
        · rw [if_neg h7, if_neg (by omega)]
    · rw [if_neg h5, if_neg (by omega)]
  · simp only [h4, if_false, false_implies, and_true, Nat.add_zero]
    by_cases h5 : g = ot
    · rw [if_pos h5, if_pos h5]
    · rw [if_neg h5, if_neg h5]
theorem cJ_needValueN {x g ot : Int32} (hx : x < nI 0 ∨ nI 8 < x) : m_cJT_needValue N 0 C x g ot = some (.inr (C, 1)) := by
  have h4 : x ≠ nI 4 := by
    rintro rfl
    rcases hx with h | h <;> exact absurd h (by decide)
  unfold m_cJT_needValue m_cJT_needValue_J0 m_cJT_needValue_J10 m_cJT_needValue_J38
  simp only [q0, q4, q8]
  rw [if_neg h4]
  by_cases c1 : x < nI 0
  · rw [if_pos c1]
  · rw [if_neg c1, if_pos (hx.resolve_left c1)]
/-- the map, or what is thrown -/
theorem cJ_mapAt (G : RC N C A rd) (hA : AI A) (hv : VC C A r) (i : Int32) :
    (∃ x, A.oV r x ∧ i = nI (A.oi x) ∧ A.kd x = 6 ∧ m_cJT_mapAt N 0 C i = some (.inl (C, some (ox x)))) ∨ (∃ x, A.oV r x ∧ i = nI (A.oi x) ∧ A.kd x ≠ 6 ∧ m_cJT_mapAt N 0 C i = some (.inr (C, 1))) ∨ ((∀ x, A.oV r x → i ≠ nI (A.oi x)) ∧ m_cJT_mapAt N 0 C i = some (.inr (C, 3))) := by
  obtain ⟨u0, u1, u2, u3, u4, u5, u6, u7, u8, u9, u10, u11, u12, u13, u14, u15, u16, u17, u18⟩ := G.nn
  unfold m_cJT_mapAt m_cJT_mapAt_J0
  rcases cJ_objectAt G hA hv i with ⟨x, h1, h2, h3⟩ | ⟨h1, h2⟩
  · have hxl := oV_ltn h1
    have hox := ox_lt hxl
    have hkd := kd_ox G hxl
    have hkdl : A.kd x ≤ 8 := by
      cases x with
      | none => simp [AS.kd]
      | some m => exact h1.2.2.2
    by_cases c : A.kd x = 6
    · left
      refine ⟨x, h1, h2, c, ?_⟩
      simp (disch := omega) only [gd_ok, cl_nI, nI_s, nI_add, nI_leI, nI_ltI, nI_eq, if_pos, if_neg, q0, q1, q2, q3, q4, q5, q6, q7, q8, q9, q10, CS.i_setI, CS.l_setI, CS.r_setI, CS.a_setI, CS.q_setI, CS.z_setI, CS.i_setL, CS.l_setL, CS.r_setL, CS.a_setL, CS.q_setL, CS.z_setL, CS.i_setR, CS.l_setR, CS.r_setR, CS.a_setR, CS.q_setR, CS.z_setR, CS.i_setA, CS.l_setA, CS.r_setA, CS.a_setA, CS.q_setA, CS.z_setA, CS.i_setQ, CS.l_setQ, CS.r_setQ, CS.a_setQ, CS.q_setQ, CS.z_setQ, CS.i_setF, CS.l_setF, CS.r_setF, CS.a_setF, CS.q_setF, CS.z_setF, CS.i_new, CS.l_new, CS.r_new, CS.a_new, CS.q_new, CS.z_new, Nat.reduceEqDiff, false_and, true_and, and_false, and_true, if_true, if_false, b2_0, b2_1, b2_nn, n0_or, n1_or, n10, n01, dec1, dec2, ob_ok, oe_l, oe_r, gl_ok, gle_ok, gn_s, gv_ok, gv_none, on_none, onSome,u11, h3, u3, hkd, c]
    · right; left
      refine ⟨x, h1, h2, c, ?_⟩
      simp (disch := omega) only [gd_ok, cl_nI, nI_s, nI_add, nI_leI, nI_ltI, nI_eq, if_pos, if_neg, q0, q1, q2, q3, q4, q5, q6, q7, q8, q9, q10, CS.i_setI, CS.l_setI, CS.r_setI, CS.a_setI, CS.q_setI, CS.z_setI, CS.i_setL, CS.l_setL, CS.r_setL, CS.a_setL, CS.q_setL, CS.z_setL, CS.i_setR, CS.l_setR, CS.r_setR, CS.a_setR, CS.q_setR, CS.z_setR, CS.i_setA, CS.l_setA, CS.r_setA, CS.a_setA, CS.q_setA, CS.z_setA, CS.i_setQ, CS.l_setQ, CS.r_setQ, CS.a_setQ, CS.q_setQ, CS.z_setQ, CS.i_setF, CS.l_setF, CS.r_setF, CS.a_setF, CS.q_setF, CS.z_setF, CS.i_new, CS.l_new, CS.r_new, CS.a_new, CS.q_new, CS.z_new, Nat.reduceEqDiff, false_and, true_and, and_false, and_true, if_true, if_false, b2_0, b2_1, b2_nn, n0_or, n1_or, n10, n01, dec1, dec2, ob_ok, oe_l, oe_r, gl_ok, gle_ok, gn_s, gv_ok, gv_none, on_none, onSome,u11, h3, u3, hkd]
  · right; right
    refine ⟨h1, ?_⟩
    simp (disch := omega) only [gd_ok, cl_nI, nI_s, nI_add, nI_leI, nI_ltI, nI_eq, if_pos, if_neg, q0, q1, q2, q3, q4, q5, q6, q7, q8, q9, q10, CS.i_setI, CS.l_setI, CS.r_setI, CS.a_setI, CS.q_setI, CS.z_setI, CS.i_setL, CS.l_setL, CS.r_setL, CS.a_setL, CS.q_setL, CS.z_setL, CS.i_setR, CS.l_setR, CS.r_setR, CS.a_setR, CS.q_setR, CS.z_setR, CS.i_setA, CS.l_setA, CS.r_setA, CS.a_setA, CS.q_setA, CS.z_setA, CS.i_setQ, CS.l_setQ, CS.r_setQ, CS.a_setQ, CS.q_setQ, CS.z_setQ, CS.i_setF, CS.l_setF, CS.r_setF, CS.a_setF, CS.q_setF, CS.z_setF, CS.i_new, CS.l_new, CS.r_new, CS.a_new, CS.q_new, CS.z_new, Nat.reduceEqDiff, false_and, true_and, and_false, and_true, if_true, if_false, b2_0, b2_1, b2_nn, n0_or, n1_or, n10, n01, dec1, dec2, ob_ok, oe_l, oe_r, gl_ok, gle_ok, gn_s, gv_ok, gv_none, on_none, onSome,u11, h2]
theorem giveStr (G : RC N C A rd) {n : Nat} (hn : A.n = n + 1) (hs : A.str n = []) (hkn : A.ba n + (A.key n).length = A.kn) (hact : A.act n ≤ 10) {j : Nat} {st : List Nat} (h2 : RW C j st.length) (hb : RB C j 0 st) (hl : A.act n = 4 → A.kn + st.length ≤ 24576) :
    ∃ C', m_cJT_giveString N 0 C (n + 1) j = some C' ∧ RC N C' (A.gs (stv (A.act n) st)) rd ∧ frC C C' := by
  obtain ⟨u0, u1, u2, u3, u4, u5, u6, u7, u8, u9, u10, u11, u12, u13, u14, u15, u16, u17, u18⟩ := G.nn
  obtain ⟨s1, s2, s3, s4, s5, s6, s7, s8, s9, s10, s11, s12, s13, s14, s15, s16, s17, s18, s19, s20, s21⟩ := G.st
  have hj := h2.1
  have hop := (G.op n (by omega)).2.2.1
  unfold m_cJT_giveString m_cJT_giveString_J0 m_cJT_giveString_J22
  unfold stv
  by_cases e : A.act n = 4
  · obtain ⟨f, f1, f2⟩ := cS_keepString G hn e hs hkn h2 hb (by omega) (hl e)
    rw [if_pos e]
    simp (disch := omega) only [gd_ok, cl_nI, nI_s, nI_add, nI_leI, nI_ltI, nI_eq, if_pos, if_neg, q0, q1, q2, q3, q4, q5, q6, q7, q8, q9, q10, CS.i_setI, CS.l_setI, CS.r_setI, CS.a_setI, CS.q_setI, CS.z_setI, CS.i_setL, CS.l_setL, CS.r_setL, CS.a_setL, CS.q_setL, CS.z_setL, CS.i_setR, CS.l_setR, CS.r_setR, CS.a_setR, CS.q_setR, CS.z_setR, CS.i_setA, CS.l_setA, CS.r_setA, CS.a_setA, CS.q_setA, CS.z_setA, CS.i_setQ, CS.l_setQ, CS.r_setQ, CS.a_setQ, CS.q_setQ, CS.z_setQ, CS.i_setF, CS.l_setF, CS.r_setF, CS.a_setF, CS.q_setF, CS.z_setF, CS.i_new, CS.l_new, CS.r_new, CS.a_new, CS.q_new, CS.z_new, Nat.reduceEqDiff, false_and, true_and, and_false, and_true, if_true, if_false, b2_0, b2_1, b2_nn, n0_or, n1_or, n10, n01, dec1, dec2, ob_ok, oe_l, oe_r, gl_ok, gle_ok, gn_s, gv_ok, gv_none, on_none, onSome,u3, u11, u5, u8, s1, hop, h2.2.2.1, f1]
    exact ⟨_, rfl, f2, frC_key⟩
  · rw [if_neg e]
    simp (disch := omega) only [gd_ok, cl_nI, nI_s, nI_add, nI_leI, nI_ltI, nI_eq, if_pos, if_neg, q0, q1, q2, q3, q4, q5, q6, q7, q8, q9, q10, CS.i_setI, CS.l_setI, CS.r_setI, CS.a_setI, CS.q_setI, CS.z_setI, CS.i_setL, CS.l_setL, CS.r_setL, CS.a_setL, CS.q_setL, CS.z_setL, CS.i_setR, CS.l_setR, CS.r_setR, CS.a_setR, CS.q_setR, CS.z_setR, CS.i_setA, CS.l_setA, CS.r_setA, CS.a_setA, CS.q_setA, CS.z_setA, CS.i_setQ, CS.l_setQ, CS.r_setQ, CS.a_setQ, CS.q_setQ, CS.z_setQ, CS.i_setF, CS.l_setF, CS.r_setF, CS.a_setF, CS.q_setF, CS.z_setF, CS.i_new, CS.l_new, CS.r_new, CS.a_new, CS.q_new, CS.z_new, Nat.reduceEqDiff, false_and, true_and, and_false, and_true, if_true, if_false, b2_0, b2_1, b2_nn, n0_or, n1_or, n10, n01, dec1, dec2, ob_ok, oe_l, oe_r, gl_ok, gle_ok, gn_s, gv_ok, gv_none, on_none, onSome,u3, hop]
    refine ⟨_, rfl, ?_, frC.refl⟩
    rw [gs_nil (by rw [hn]; exact hs) (by omega)]
    exact G
end CSET
