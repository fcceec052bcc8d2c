/-! THE READING CALLS: element, object. -/
section CRD
variable {S S' : MS} {N : Nat → Nat} {C C' : CS} {A : AS} {r rd : Nat} {bi bf bs bo : List Nat} {ji jf js a : Nat}
/-- a call that makes nothing: class and reference end alike -/
def RLIKE {β : Type} (hd : List (Nat × Int32)) (A : AS) (rd : Nat) (N : Nat → Nat) (x : Option ((CS × β) ⊕ (CS × Nat))) (y : Option (MS × β)) : Prop :=
  (∃ C' v S' rd', x = some (.inl (C', v)) ∧ y = some (S', v) ∧ S'.i 0 = nI 0 ∧ INV S' N C' A rd' ∧ rd ≤ rd' ∧ rd' ≤ rd + 50000) ∨
  (∃ C' t k v S' rd', x = some (.inr (C', t)) ∧ hd.lookup t = some k ∧ y = some (S', v) ∧ S'.i 0 = k ∧ INV S' N C' A rd' ∧ rd ≤ rd' ∧ rd' ≤ rd + 50000)
theorem rlikeT {β : Type} {hd : List (Nat × Int32)} {x : Option ((CS × β) ⊕ (CS × Nat))} {y : Option (MS × β)} {t k rd' : Nat} {v : β} {S1 : MS} (hx : x = some (.inr (C', t))) (hy : y = some (S1.setI 0 (nI k), v)) (ht : hd.lookup t = some (nI k)) (hR : RS S1 A) (G : RC N C' A rd') (hA : AI A) (hio : RIO S1 C' bi bf bs bo ji jf js a) (h1 : rd ≤ rd') (h2 : rd' ≤ rd + 50000) : RLIKE hd A rd N x y :=
  Or.inr ⟨C', t, nI k, v, _, rd', hx, ht, hy, by rw [MS.i_setI, if_pos rfl], ⟨hR.setI rfl, G, hA, _, _, _, _, _, _, _, _, hio.fr (frS_setI (by decide)) frC.refl⟩, h1, h2⟩
theorem rlikeV {β : Type} {hd : List (Nat × Int32)} {x : Option ((CS × β) ⊕ (CS × Nat))} {y : Option (MS × β)} {rd' : Nat} {v : β} {S1 : MS} (hx : x = some (.inl (C', v))) (hy : y = some (S1.setI 0 (nI 0), v)) (hR : RS S1 A) (G : RC N C' A rd') (hA : AI A) (hio : RIO S1 C' bi bf bs bo ji jf js a) (h1 : rd ≤ rd') (h2 : rd' ≤ rd + 50000) : RLIKE hd A rd N x y :=
  Or.inl ⟨C', v, _, rd', hx, hy, by rw [MS.i_setI, if_pos rfl], ⟨hR.setI rfl, G, hA, _, _, _, _, _, _, _, _, hio.fr (frS_setI (by decide)) frC.refl⟩, h1, h2⟩
theorem m16 : (-nI 1 = nI 6) ↔ False := by decide
theorem m17 : (-nI 1 = nI 7) ↔ False := by decide
theorem m18 : (-nI 1 = nI 8) ↔ False := by decide
theorem lkN {x y : Int32} (h : x < nI 0 ∨ nI 8 ≤ x) : m_rlistKind S x y = some (S, nI 1) := by
  unfold m_rlistKind m_rlistKind_J0
  simp (disch := omega) only [gd_ok, cl_nI, nI_s, nI_add, nI_leI, nI_ltI, nI_eq, if_pos, if_neg, q0, q1, q2, q3, q4, q5, q6, q7, q8, q9, q10, MS.i_setI, MS.a_setI, MS.n_setI, MS.i_setA, MS.a_setA, MS.n_setA, MS.i_setN, MS.a_setN, MS.n_setN, ↓reduceIte, Nat.reduceEqDiff, b2_0, b2_1, b2_nn, n0_or, n1_or, n10, n01, dec1, dec2, ob_ok, oe_l, oe_r,pS_isN h]
theorem lkM (hR : RS S A) (hA : AI A) (hr : r < 8) {x : Option Nat} (hx : A.oV r x) (hkd : A.kd x = 6) : m_rlistKind S (nI r) (nI (A.oi x)) = some (S, nI 1) := by
  have h := kind_x hR hA hr hx
  unfold m_rlistKind m_rlistKind_J0 m_rlistKind_J35
  simp (disch := omega) only [gd_ok, cl_nI, nI_s, nI_add, nI_leI, nI_ltI, nI_eq, if_pos, if_neg, q0, q1, q2, q3, q4, q5, q6, q7, q8, q9, q10, MS.i_setI, MS.a_setI, MS.n_setI, MS.i_setA, MS.a_setA, MS.n_setA, MS.i_setN, MS.a_setN, MS.n_setN, ↓reduceIte, Nat.reduceEqDiff, b2_0, b2_1, b2_nn, n0_or, n1_or, n10, n01, dec1, dec2, ob_ok, oe_l, oe_r,pS_isR hr, h, hkd]
theorem lkL (hR : RS S A) (hA : AI A) (hr : r < 8) {x : Option Nat} (hx : A.oV r x) (hkd : A.kd x ≠ 6) : m_rlistKind S (nI r) (nI (A.oi x)) = some (S, nI 0) := by
  have h := kind_x hR hA hr hx
  have h8 := kd_le8 hx
  unfold m_rlistKind m_rlistKind_J0 m_rlistKind_J35
  simp (disch := omega) only [gd_ok, cl_nI, nI_s, nI_add, nI_leI, nI_ltI, nI_eq, if_pos, if_neg, q0, q1, q2, q3, q4, q5, q6, q7, q8, q9, q10, MS.i_setI, MS.a_setI, MS.n_setI, MS.i_setA, MS.a_setA, MS.n_setA, MS.i_setN, MS.a_setN, MS.n_setN, ↓reduceIte, Nat.reduceEqDiff, b2_0, b2_1, b2_nn, n0_or, n1_or, n10, n01, dec1, dec2, ob_ok, oe_l, oe_r,pS_isR hr, h]
theorem lkX (hR : RS S A) (hA : AI A) (hr : r < 8) {i : Int32} (hno : ∀ x, A.oV r x → i ≠ nI (A.oi x)) : m_rlistKind S (nI r) i = some (S, nI 2) := by
  have h := kind_n hR hA hr hno
  unfold m_rlistKind m_rlistKind_J0 m_rlistKind_J35
  simp (disch := omega) only [gd_ok, cl_nI, nI_s, nI_add, nI_leI, nI_ltI, nI_eq, if_pos, if_neg, q0, q1, q2, q3, q4, q5, q6, q7, q8, q9, q10, MS.i_setI, MS.a_setI, MS.n_setI, MS.i_setA, MS.a_setA, MS.n_setA, MS.i_setN, MS.a_setN, MS.n_setN, ↓reduceIte, Nat.reduceEqDiff, b2_0, b2_1, b2_nn, n0_or, n1_or, n10, n01, dec1, dec2, ob_ok, oe_l, oe_r,pS_isR hr, h, m16, m1le]
theorem call_element (hI : INV S N C A rd) (hrd : rd + 60000 < 2 ^ 30) (x1 x2 x3 : Int32) : RLIKE [(1, 1), (3, 2)] A rd N (m_cJT_element N 0 C x1 x2 x3) (m_relement S x1 x2 x3) := by
  obtain ⟨hR, G, hA, bi, bf, bs, bo, ji, jf, js, a, hio⟩ := hI
  obtain ⟨u0, u1, u2, u3, u4, u5, u6, u7, u8, u9, u10, u11, u12, u13, u14, u15, u16, u17, u18⟩ := G.nn
  obtain ⟨s1, s2, s3, s4, s5, s6, s7, s8, s9, s10, s11, s12, s13, s14, s15, s16, s17, s18, s19, s20, s21⟩ := G.st
  have hnn := hA.1.1
  unfold m_cJT_element m_cJT_element_J0 m_relement m_relement_J0
  rcases rep_or x1 with hx1 | ⟨r, hr, rfl⟩
  · refine rlikeT (t := 1) (k := 1) (C' := C) (S1 := S) (v := nI 0) ?_ ?_ rfl hR G hA hio (Nat.le_refl _) (by omega)
    · simp (disch := omega) only [gd_ok, cl_nI, nI_s, nI_add, nI_leI, nI_ltI, nI_eq, if_pos, if_neg, q0, q1, q2, q3, q4, q5, q6, q7, q8, q9, q10, CS.i_setI, CS.l_setI, CS.r_setI, CS.a_setI, CS.q_setI, CS.z_setI, CS.i_setL, CS.l_setL, CS.r_setL, CS.a_setL, CS.q_setL, CS.z_setL, CS.i_setR, CS.l_setR, CS.r_setR, CS.a_setR, CS.q_setR, CS.z_setR, CS.i_setA, CS.l_setA, CS.r_setA, CS.a_setA, CS.q_setA, CS.z_setA, CS.i_setQ, CS.l_setQ, CS.r_setQ, CS.a_setQ, CS.q_setQ, CS.z_setQ, CS.i_setF, CS.l_setF, CS.r_setF, CS.a_setF, CS.q_setF, CS.z_setF, CS.i_new, CS.l_new, CS.r_new, CS.a_new, CS.q_new, CS.z_new, Nat.reduceEqDiff, false_and, true_and, and_false, and_true, if_true, if_false, b2_0, b2_1, b2_nn, n0_or, n1_or, n10, n01, dec1, dec2, ob_ok, oe_l, oe_r, gl_ok, gle_ok, gn_s, gv_ok, gv_none, on_none, onSome,u11, cJ_shownN hx1]
    · simp (disch := omega) only [gd_ok, cl_nI, nI_s, nI_add, nI_leI, nI_ltI, nI_eq, if_pos, if_neg, q0, q1, q2, q3, q4, q5, q6, q7, q8, q9, q10, MS.i_setI, MS.a_setI, MS.n_setI, MS.i_setA, MS.a_setA, MS.n_setA, MS.i_setN, MS.a_setN, MS.n_setN, ↓reduceIte, Nat.reduceEqDiff, b2_0, b2_1, b2_nn, n0_or, n1_or, n10, n01, dec1, dec2, ob_ok, oe_l, oe_r,lkN hx1, pS_no]
  · obtain ⟨C2, hsh, G2, hv2, hfr2⟩ := cJ_shown G hA hr
    have hio2 := hio.fr frS.refl hfr2
    have hvw : C2.r 11 2 0 = some 0 := G2.st.2.2.1
    rcases cJ_listAt G2 hA hv2 x2 with ⟨x, hx, rfl, hkd, hmp⟩ | ⟨x, hx, rfl, hkd, hmp⟩ | ⟨hno, hmp⟩
    · have hlk := lkL hR hA hr hx hkd
      have hxl := oV_ltn hx
      have hox := ox_lt hxl
      have hln := L_len hA (x := x)
      obtain ⟨C3, hV3, hsp⟩ := cV_spotAt G2 hA hv2 hxl (by omega) x3
      obtain ⟨rd3, r31, r32, G3⟩ := hV3.toRC G2
      have hio3 := hio2.fr frS.refl hV3.fr
      obtain ⟨S3, hLS3, hat⟩ := pS_at hR hA hr hx hkd x3
      have hR3 := hLS3.RS hR
      have hio4 := hio3.fr hLS3.frS frC.refl
      rcases hsp with ⟨k, s, rfl, hk31, hfs, hsp⟩ | ⟨hnos, hsp⟩
      · have hkl : k < (A.fl r x).length := by
          rcases Nat.lt_or_ge k (A.fl r x).length with h | h
          · exact h
          · rw [List.getElem?_eq_none h] at hfs; cases hfs
        have hsfl : s ∈ A.fl r x := List.mem_of_getElem? hfs
        unfold AS.fl at hsfl
        rw [List.mem_filter] at hsfl
        have hsL := L_mem hA hsfl.1
        have hsj := G3.ln.1 s hsL.1 hsL.2.2
        have hid := (G3.op s hsL.1).1
        rcases hat with ⟨k', s', e, hke, hk31', hfs', hen, hee, hat⟩ | ⟨hnos', hat⟩
        · have hkk : k = k' := (nI_eq (by omega) hk31').mp hke
          subst hkk
          rw [hfs] at hfs'
          obtain rfl : s = s' := Option.some.inj hfs'
          have h6 : e < (A.el r x).length := by
            rcases Nat.lt_or_ge e (A.el r x).length with h | h
            · exact h
            · rw [List.getElem?_eq_none h] at hee; cases hee
          have h48 : S3.a 48 e = nI s := by
            rw [hLS3.get.2.1 e h6]
            rw [List.getElem?_eq_getElem h6] at hee
            rw [Option.some.inj hee]
          have hs8 : S3.a 8 s = nI (A.id s) := (hR3.2.1 s hsL.1).1
          refine rlikeV (C' := C3) (S1 := S3) (v := nI (A.id s)) ?_ ?_ hR3 G3 hA hio4 r31 (by omega)
          · simp (disch := omega) only [gd_ok, cl_nI, nI_s, nI_add, nI_leI, nI_ltI, nI_eq, if_pos, if_neg, q0, q1, q2, q3, q4, q5, q6, q7, q8, q9, q10, CS.i_setI, CS.l_setI, CS.r_setI, CS.a_setI, CS.q_setI, CS.z_setI, CS.i_setL, CS.l_setL, CS.r_setL, CS.a_setL, CS.q_setL, CS.z_setL, CS.i_setR, CS.l_setR, CS.r_setR, CS.a_setR, CS.q_setR, CS.z_setR, CS.i_setA, CS.l_setA, CS.r_setA, CS.a_setA, CS.q_setA, CS.z_setA, CS.i_setQ, CS.l_setQ, CS.r_setQ, CS.a_setQ, CS.q_setQ, CS.z_setQ, CS.i_setF, CS.l_setF, CS.r_setF, CS.a_setF, CS.q_setF, CS.z_setF, CS.i_new, CS.l_new, CS.r_new, CS.a_new, CS.q_new, CS.z_new, Nat.reduceEqDiff, false_and, true_and, and_false, and_true, if_true, if_false, b2_0, b2_1, b2_nn, n0_or, n1_or, n10, n01, dec1, dec2, ob_ok, oe_l, oe_r, gl_ok, gle_ok, gn_s, gv_ok, gv_none, on_none, onSome,u11, u3, u10, u7, s3, hsh, hmp, hvw, hsp, cJ_needSpot, reduceCtorEq, hsj.1, hsj.2.1, hid]
          · simp (disch := omega) only [gd_ok, cl_nI, nI_s, nI_add, nI_leI, nI_ltI, nI_eq, if_pos, if_neg, q0, q1, q2, q3, q4, q5, q6, q7, q8, q9, q10, MS.i_setI, MS.a_setI, MS.n_setI, MS.i_setA, MS.a_setA, MS.n_setA, MS.i_setN, MS.a_setN, MS.n_setN, ↓reduceIte, Nat.reduceEqDiff, b2_0, b2_1, b2_nn, n0_or, n1_or, n10, n01, dec1, dec2, ob_ok, oe_l, oe_r,hlk, hat, h48, hs8]
        · exact absurd rfl (hnos' k hkl)
      · refine rlikeT (t := 3) (k := 2) (C' := C3) (S1 := S3) (v := nI 0) ?_ ?_ rfl hR3 G3 hA hio4 r31 (by omega)
        · simp (disch := omega) only [gd_ok, cl_nI, nI_s, nI_add, nI_leI, nI_ltI, nI_eq, if_pos, if_neg, q0, q1, q2, q3, q4, q5, q6, q7, q8, q9, q10, CS.i_setI, CS.l_setI, CS.r_setI, CS.a_setI, CS.q_setI, CS.z_setI, CS.i_setL, CS.l_setL, CS.r_setL, CS.a_setL, CS.q_setL, CS.z_setL, CS.i_setR, CS.l_setR, CS.r_setR, CS.a_setR, CS.q_setR, CS.z_setR, CS.i_setA, CS.l_setA, CS.r_setA, CS.a_setA, CS.q_setA, CS.z_setA, CS.i_setQ, CS.l_setQ, CS.r_setQ, CS.a_setQ, CS.q_setQ, CS.z_setQ, CS.i_setF, CS.l_setF, CS.r_setF, CS.a_setF, CS.q_setF, CS.z_setF, CS.i_new, CS.l_new, CS.r_new, CS.a_new, CS.q_new, CS.z_new, Nat.reduceEqDiff, false_and, true_and, and_false, and_true, if_true, if_false, b2_0, b2_1, b2_nn, n0_or, n1_or, n10, n01, dec1, dec2, ob_ok, oe_l, oe_r, gl_ok, gle_ok, gn_s, gv_ok, gv_none, on_none, onSome,u11, u3, u10, s3, hsh, hmp, hvw, hsp, cJ_needSpot]
        · rcases hat with ⟨k', s', e, hke, hk31', hfs', hen, hee, hat⟩ | ⟨hnos', hat⟩
          · exfalso
            rcases Nat.lt_or_ge k' (A.fl r x).length with h | h
            · exact hnos k' h hke
            · rw [List.getElem?_eq_none h] at hfs'; cases hfs'
          · simp (disch := omega) only [gd_ok, cl_nI, nI_s, nI_add, nI_leI, nI_ltI, nI_eq, if_pos, if_neg, q0, q1, q2, q3, q4, q5, q6, q7, q8, q9, q10, MS.i_setI, MS.a_setI, MS.n_setI, MS.i_setA, MS.a_setA, MS.n_setA, MS.i_setN, MS.a_setN, MS.n_setN, ↓reduceIte, Nat.reduceEqDiff, b2_0, b2_1, b2_nn, n0_or, n1_or, n10, n01, dec1, dec2, ob_ok, oe_l, oe_r,hlk, hat, pS_no, m1le]
    · refine rlikeT (t := 1) (k := 1) (C' := C2) (S1 := S) (v := nI 0) ?_ ?_ rfl hR G2 hA hio2 (Nat.le_refl _) (by omega)
      · simp (disch := omega) only [gd_ok, cl_nI, nI_s, nI_add, nI_leI, nI_ltI, nI_eq, if_pos, if_neg, q0, q1, q2, q3, q4, q5, q6, q7, q8, q9, q10, CS.i_setI, CS.l_setI, CS.r_setI, CS.a_setI, CS.q_setI, CS.z_setI, CS.i_setL, CS.l_setL, CS.r_setL, CS.a_setL, CS.q_setL, CS.z_setL, CS.i_setR, CS.l_setR, CS.r_setR, CS.a_setR, CS.q_setR, CS.z_setR, CS.i_setA, CS.l_setA, CS.r_setA, CS.a_setA, CS.q_setA, CS.z_setA, CS.i_setQ, CS.l_setQ, CS.r_setQ, CS.a_setQ, CS.q_setQ, CS.z_setQ, CS.i_setF, CS.l_setF, CS.r_setF, CS.a_setF, CS.q_setF, CS.z_setF, CS.i_new, CS.l_new, CS.r_new, CS.a_new, CS.q_new, CS.z_new, Nat.reduceEqDiff, false_and, true_and, and_false, and_true, if_true, if_false, b2_0, b2_1, b2_nn, n0_or, n1_or, n10, n01, dec1, dec2, ob_ok, oe_l, oe_r, gl_ok, gle_ok, gn_s, gv_ok, gv_none, on_none, onSome,u11, hsh, hmp]
      · simp (disch := omega) only [gd_ok, cl_nI, nI_s, nI_add, nI_leI, nI_ltI, nI_eq, if_pos, if_neg, q0, q1, q2, q3, q4, q5, q6, q7, q8, q9, q10, MS.i_setI, MS.a_setI, MS.n_setI, MS.i_setA, MS.a_setA, MS.n_setA, MS.i_setN, MS.a_setN, MS.n_setN, ↓reduceIte, Nat.reduceEqDiff, b2_0, b2_1, b2_nn, n0_or, n1_or, n10, n01, dec1, dec2, ob_ok, oe_l, oe_r,lkM hR hA hr hx hkd, pS_no]
    · refine rlikeT (t := 3) (k := 2) (C' := C2) (S1 := S) (v := nI 0) ?_ ?_ rfl hR G2 hA hio2 (Nat.le_refl _) (by omega)
      · simp (disch := omega) only [gd_ok, cl_nI, nI_s, nI_add, nI_leI, nI_ltI, nI_eq, if_pos, if_neg, q0, q1, q2, q3, q4, q5, q6, q7, q8, q9, q10, CS.i_setI, CS.l_setI, CS.r_setI, CS.a_setI, CS.q_setI, CS.z_setI, CS.i_setL, CS.l_setL, CS.r_setL, CS.a_setL, CS.q_setL, CS.z_setL, CS.i_setR, CS.l_setR, CS.r_setR, CS.a_setR, CS.q_setR, CS.z_setR, CS.i_setA, CS.l_setA, CS.r_setA, CS.a_setA, CS.q_setA, CS.z_setA, CS.i_setQ, CS.l_setQ, CS.r_setQ, CS.a_setQ, CS.q_setQ, CS.z_setQ, CS.i_setF, CS.l_setF, CS.r_setF, CS.a_setF, CS.q_setF, CS.z_setF, CS.i_new, CS.l_new, CS.r_new, CS.a_new, CS.q_new, CS.z_new, Nat.reduceEqDiff, false_and, true_and, and_false, and_true, if_true, if_false, b2_0, b2_1, b2_nn, n0_or, n1_or, n10, n01, dec1, dec2, ob_ok, oe_l, oe_r, gl_ok, gle_ok, gn_s, gv_ok, gv_none, on_none, onSome,u11, hsh, hmp]
      · simp (disch := omega) only [gd_ok, cl_nI, nI_s, nI_add, nI_leI, nI_ltI, nI_eq, if_pos, if_neg, q0, q1, q2, q3, q4, q5, q6, q7, q8, q9, q10, MS.i_setI, MS.a_setI, MS.n_setI, MS.i_setA, MS.a_setA, MS.n_setA, MS.i_setN, MS.a_setN, MS.n_setN, ↓reduceIte, Nat.reduceEqDiff, b2_0, b2_1, b2_nn, n0_or, n1_or, n10, n01, dec1, dec2, ob_ok, oe_l, oe_r,lkX hR hA hr hno, pS_no]
theorem call_object (hI : INV S N C A rd) (hrd : rd + 60000 < 2 ^ 30) (x1 x2 x3 : Int32) : RLIKE [(1, 1), (3, 2)] A rd N (m_cJT_object N 0 C x1 x2 x3) (m_robject S x1 x2 x3) := by
  obtain ⟨hR, G, hA, bi, bf, bs, bo, ji, jf, js, a, hio⟩ := hI
  obtain ⟨u0, u1, u2, u3, u4, u5, u6, u7, u8, u9, u10, u11, u12, u13, u14, u15, u16, u17, u18⟩ := G.nn
  obtain ⟨s1, s2, s3, s4, s5, s6, s7, s8, s9, s10, s11, s12, s13, s14, s15, s16, s17, s18, s19, s20, s21⟩ := G.st
  have hnn := hA.1.1
  unfold m_cJT_object m_cJT_object_J0 m_robject m_robject_J0
  rcases rep_or x1 with hx1 | ⟨r, hr, rfl⟩
  · refine rlikeT (t := 1) (k := 1) (C' := C) (S1 := S) (v := nI 0) ?_ ?_ rfl hR G hA hio (Nat.le_refl _) (by omega)
    · simp (disch := omega) only [gd_ok, cl_nI, nI_s, nI_add, nI_leI, nI_ltI, nI_eq, if_pos, if_neg, q0, q1, q2, q3, q4, q5, q6, q7, q8, q9, q10, CS.i_setI, CS.l_setI, CS.r_setI, CS.a_setI, CS.q_setI, CS.z_setI, CS.i_setL, CS.l_setL, CS.r_setL, CS.a_setL, CS.q_setL, CS.z_setL, CS.i_setR, CS.l_setR, CS.r_setR, CS.a_setR, CS.q_setR, CS.z_setR, CS.i_setA, CS.l_setA, CS.r_setA, CS.a_setA, CS.q_setA, CS.z_setA, CS.i_setQ, CS.l_setQ, CS.r_setQ, CS.a_setQ, CS.q_setQ, CS.z_setQ, CS.i_setF, CS.l_setF, CS.r_setF, CS.a_setF, CS.q_setF, CS.z_setF, CS.i_new, CS.l_new, CS.r_new, CS.a_new, CS.q_new, CS.z_new, Nat.reduceEqDiff, false_and, true_and, and_false, and_true, if_true, if_false, b2_0, b2_1, b2_nn, n0_or, n1_or, n10, n01, dec1, dec2, ob_ok, oe_l, oe_r, gl_ok, gle_ok, gn_s, gv_ok, gv_none, on_none, onSome,u11, cJ_shownN hx1]
    · unfold m_robject_J16
      simp (disch := omega) only [gd_ok, cl_nI, nI_s, nI_add, nI_leI, nI_ltI, nI_eq, if_pos, if_neg, q0, q1, q2, q3, q4, q5, q6, q7, q8, q9, q10, MS.i_setI, MS.a_setI, MS.n_setI, MS.i_setA, MS.a_setA, MS.n_setA, MS.i_setN, MS.a_setN, MS.n_setN, ↓reduceIte, Nat.reduceEqDiff, b2_0, b2_1, b2_nn, n0_or, n1_or, n10, n01, dec1, dec2, ob_ok, oe_l, oe_r,pS_isN hx1, pS_no]
  · obtain ⟨C2, hsh, G2, hv2, hfr2⟩ := cJ_shown G hA hr
    have hio2 := hio.fr frS.refl hfr2
    have hvw : C2.r 11 2 0 = some 0 := G2.st.2.2.1
    by_cases c0 : x3 < nI 0
    · refine rlikeT (t := 1) (k := 1) (C' := C2) (S1 := S) (v := nI 0) ?_ ?_ rfl hR G2 hA hio2 (Nat.le_refl _) (by omega)
      · unfold m_cJT_object_J15
        simp (disch := omega) only [gd_ok, cl_nI, nI_s, nI_add, nI_leI, nI_ltI, nI_eq, if_pos, if_neg, q0, q1, q2, q3, q4, q5, q6, q7, q8, q9, q10, CS.i_setI, CS.l_setI, CS.r_setI, CS.a_setI, CS.q_setI, CS.z_setI, CS.i_setL, CS.l_setL, CS.r_setL, CS.a_setL, CS.q_setL, CS.z_setL, CS.i_setR, CS.l_setR, CS.r_setR, CS.a_setR, CS.q_setR, CS.z_setR, CS.i_setA, CS.l_setA, CS.r_setA, CS.a_setA, CS.q_setA, CS.z_setA, CS.i_setQ, CS.l_setQ, CS.r_setQ, CS.a_setQ, CS.q_setQ, CS.z_setQ, CS.i_setF, CS.l_setF, CS.r_setF, CS.a_setF, CS.q_setF, CS.z_setF, CS.i_new, CS.l_new, CS.r_new, CS.a_new, CS.q_new, CS.z_new, Nat.reduceEqDiff, false_and, true_and, and_false, and_true, if_true, if_false, b2_0, b2_1, b2_nn, n0_or, n1_or, n10, n01, dec1, dec2, ob_ok, oe_l, oe_r, gl_ok, gle_ok, gn_s, gv_ok, gv_none, on_none, onSome,u11, hsh]
      · unfold m_robject_J16
        simp (disch := omega) only [gd_ok, cl_nI, nI_s, nI_add, nI_leI, nI_ltI, nI_eq, if_pos, if_neg, q0, q1, q2, q3, q4, q5, q6, q7, q8, q9, q10, MS.i_setI, MS.a_setI, MS.n_setI, MS.i_setA, MS.a_setA, MS.n_setA, MS.i_setN, MS.a_setN, MS.n_setN, ↓reduceIte, Nat.reduceEqDiff, b2_0, b2_1, b2_nn, n0_or, n1_or, n10, n01, dec1, dec2, ob_ok, oe_l, oe_r,pS_isR hr, pS_no]
    · obtain ⟨k, hk, rfl⟩ := nI_of c0
      by_cases c1 : k ≤ 1
      · rcases cJ_objectAt G2 hA hv2 x2 with ⟨x, hx, rfl, hmp⟩ | ⟨hno, hmp⟩
        · have hkn := kind_x hR hA hr hx
          have h8 := kd_le8 hx
          have hxl := oV_ltn hx
          have hox := ox_lt hxl
          have hkd := kd_ox G2 hxl
          have hln := L_len hA (x := x)
          by_cases e0 : k = 0
          · refine rlikeV (C' := C2) (S1 := S) (v := nI (A.kd x)) ?_ ?_ hR G2 hA hio2 (Nat.le_refl _) (by omega)
            · unfold m_cJT_object_J51
              simp (disch := omega) only [gd_ok, cl_nI, nI_s, nI_add, nI_leI, nI_ltI, nI_eq, if_pos, if_neg, q0, q1, q2, q3, q4, q5, q6, q7, q8, q9, q10, CS.i_setI, CS.l_setI, CS.r_setI, CS.a_setI, CS.q_setI, CS.z_setI, CS.i_setL, CS.l_setL, CS.r_setL, CS.a_setL, CS.q_setL, CS.z_setL, CS.i_setR, CS.l_setR, CS.r_setR, CS.a_setR, CS.q_setR, CS.z_setR, CS.i_setA, CS.l_setA, CS.r_setA, CS.a_setA, CS.q_setA, CS.z_setA, CS.i_setQ, CS.l_setQ, CS.r_setQ, CS.a_setQ, CS.q_setQ, CS.z_setQ, CS.i_setF, CS.l_setF, CS.r_setF, CS.a_setF, CS.q_setF, CS.z_setF, CS.i_new, CS.l_new, CS.r_new, CS.a_new, CS.q_new, CS.z_new, Nat.reduceEqDiff, false_and, true_and, and_false, and_true, if_true, if_false, b2_0, b2_1, b2_nn, n0_or, n1_or, n10, n01, dec1, dec2, ob_ok, oe_l, oe_r, gl_ok, gle_ok, gn_s, gv_ok, gv_none, on_none, onSome,u11, u3, hsh, hmp, e0, hkd]
            · simp (disch := omega) only [gd_ok, cl_nI, nI_s, nI_add, nI_leI, nI_ltI, nI_eq, if_pos, if_neg, q0, q1, q2, q3, q4, q5, q6, q7, q8, q9, q10, MS.i_setI, MS.a_setI, MS.n_setI, MS.i_setA, MS.a_setA, MS.n_setA, MS.i_setN, MS.a_setN, MS.n_setN, ↓reduceIte, Nat.reduceEqDiff, b2_0, b2_1, b2_nn, n0_or, n1_or, n10, n01, dec1, dec2, ob_ok, oe_l, oe_r,pS_isR hr, hkn, e0]
          · obtain ⟨C3, hfi, hV3⟩ := cV_filledIn G2 hA hv2 hxl (by omega)
            obtain ⟨rd3, r31, r32, G3⟩ := hV3.toRC G2
            have hio3 := hio2.fr frS.refl hV3.fr
            have hR1 : RS (S.setI 0 (nI 0)) A := hR.setI rfl
            have hx : m_cJT_object N 0 C (nI r) (nI (A.oi x)) (nI k) = some (.inl (C3, nI (A.fl r x).length)) := by
              unfold m_cJT_object m_cJT_object_J0 m_cJT_object_J51
              simp (disch := omega) only [gd_ok, cl_nI, nI_s, nI_add, nI_leI, nI_ltI, nI_eq, if_pos, if_neg, q0, q1, q2, q3, q4, q5, q6, q7, q8, q9, q10, CS.i_setI, CS.l_setI, CS.r_setI, CS.a_setI, CS.q_setI, CS.z_setI, CS.i_setL, CS.l_setL, CS.r_setL, CS.a_setL, CS.q_setL, CS.z_setL, CS.i_setR, CS.l_setR, CS.r_setR, CS.a_setR, CS.q_setR, CS.z_setR, CS.i_setA, CS.l_setA, CS.r_setA, CS.a_setA, CS.q_setA, CS.z_setA, CS.i_setQ, CS.l_setQ, CS.r_setQ, CS.a_setQ, CS.q_setQ, CS.z_setQ, CS.i_setF, CS.l_setF, CS.r_setF, CS.a_setF, CS.q_setF, CS.z_setF, CS.i_new, CS.l_new, CS.r_new, CS.a_new, CS.q_new, CS.z_new, Nat.reduceEqDiff, false_and, true_and, and_false, and_true, if_true, if_false, b2_0, b2_1, b2_nn, n0_or, n1_or, n10, n01, dec1, dec2, ob_ok, oe_l, oe_r, gl_ok, gle_ok, gn_s, gv_ok, gv_none, on_none, onSome,u11, u3, u10, s3, hsh, hmp, hvw, hfi]
            unfold m_cJT_object m_cJT_object_J0 at hx
            by_cases c6 : A.kd x = 6
            · obtain ⟨f, g, hko, _⟩ := pS_keysOf hR1 hA hr ‹A.oV r x› c6
              obtain ⟨S3, hS3⟩ : ∃ S3, S3 = (((S.setI 0 (nI 0)).setA 45 f).setA 70 g).setI 71 (nI (A.fl r x).length) := ⟨_, rfl⟩
              rw [← hS3] at hko
              have h71 : S3.i 71 = nI (A.fl r x).length := by rw [hS3, MS.i_setI, if_pos rfl]
              have h30 : S3.i 0 = nI 0 := by rw [hS3, MS.i_setI, if_neg (by decide), MS.i_setA, MS.i_setA, MS.i_setI, if_pos rfl]
              have hR3 : RS S3 A := by rw [hS3]; exact ((hR1.setA rfl).setA rfl).setI rfl
              have hfr3 : frS S S3 := by
                rw [hS3]
                exact (((frS_setI (by decide)).trans (frS_setA (by decide))).trans (frS_setA (by decide))).trans (frS_setI (by decide))
              refine Or.inl ⟨C3, _, S3, rd3, hx, ?_, h30, ⟨hR3, G3, hA, bi, bf, bs, bo, ji, jf, js, a, hio3.fr hfr3 frC.refl⟩, r31, by omega⟩
              simp (disch := omega) only [gd_ok, cl_nI, nI_s, nI_add, nI_leI, nI_ltI, nI_eq, if_pos, if_neg, q0, q1, q2, q3, q4, q5, q6, q7, q8, q9, q10, MS.i_setI, MS.a_setI, MS.n_setI, MS.i_setA, MS.a_setA, MS.n_setA, MS.i_setN, MS.a_setN, MS.n_setN, ↓reduceIte, Nat.reduceEqDiff, b2_0, b2_1, b2_nn, n0_or, n1_or, n10, n01, dec1, dec2, ob_ok, oe_l, oe_r,pS_isR hr, hkn, c6, hko, h71]
            · obtain ⟨S3, hLS3, hin⟩ := pS_indices hR1 hA hr ‹A.oV r x› c6
              refine Or.inl ⟨C3, _, S3, rd3, hx, ?_, ?_, ⟨hLS3.RS hR1, G3, hA, bi, bf, bs, bo, ji, jf, js, a, hio3.fr ((frS_setI (by decide)).trans hLS3.frS) frC.refl⟩, r31, by omega⟩
              · simp (disch := omega) only [gd_ok, cl_nI, nI_s, nI_add, nI_leI, nI_ltI, nI_eq, if_pos, if_neg, q0, q1, q2, q3, q4, q5, q6, q7, q8, q9, q10, MS.i_setI, MS.a_setI, MS.n_setI, MS.i_setA, MS.a_setA, MS.n_setA, MS.i_setN, MS.a_setN, MS.n_setN, ↓reduceIte, Nat.reduceEqDiff, b2_0, b2_1, b2_nn, n0_or, n1_or, n10, n01, dec1, dec2, ob_ok, oe_l, oe_r,pS_isR hr, hkn, hin]
              · obtain ⟨f, c, g, t, rfl, _⟩ := hLS3
                simp (disch := omega) only [gd_ok, cl_nI, nI_s, nI_add, nI_leI, nI_ltI, nI_eq, if_pos, if_neg, q0, q1, q2, q3, q4, q5, q6, q7, q8, q9, q10, MS.i_setI, MS.a_setI, MS.n_setI, MS.i_setA, MS.a_setA, MS.n_setA, MS.i_setN, MS.a_setN, MS.n_setN, ↓reduceIte, Nat.reduceEqDiff, b2_0, b2_1, b2_nn, n0_or, n1_or, n10, n01, dec1, dec2, ob_ok, oe_l, oe_r]
        · refine rlikeT (t := 3) (k := 2) (C' := C2) (S1 := S) (v := nI 0) ?_ ?_ rfl hR G2 hA hio2 (Nat.le_refl _) (by omega)
          · simp (disch := omega) only [gd_ok, cl_nI, nI_s, nI_add, nI_leI, nI_ltI, nI_eq, if_pos, if_neg, q0, q1, q2, q3, q4, q5, q6, q7, q8, q9, q10, CS.i_setI, CS.l_setI, CS.r_setI, CS.a_setI, CS.q_setI, CS.z_setI, CS.i_setL, CS.l_setL, CS.r_setL, CS.a_setL, CS.q_setL, CS.z_setL, CS.i_setR, CS.l_setR, CS.r_setR, CS.a_setR, CS.q_setR, CS.z_setR, CS.i_setA, CS.l_setA, CS.r_setA, CS.a_setA, CS.q_setA, CS.z_setA, CS.i_setQ, CS.l_setQ, CS.r_setQ, CS.a_setQ, CS.q_setQ, CS.z_setQ, CS.i_setF, CS.l_setF, CS.r_setF, CS.a_setF, CS.q_setF, CS.z_setF, CS.i_new, CS.l_new, CS.r_new, CS.a_new, CS.q_new, CS.z_new, Nat.reduceEqDiff, false_and, true_and, and_false, and_true, if_true, if_false, b2_0, b2_1, b2_nn, n0_or, n1_or, n10, n01, dec1, dec2, ob_ok, oe_l, oe_r, gl_ok, gle_ok, gn_s, gv_ok, gv_none, on_none, onSome,u11, hsh, hmp]
          · simp (disch := omega) only [gd_ok, cl_nI, nI_s, nI_add, nI_leI, nI_ltI, nI_eq, if_pos, if_neg, q0, q1, q2, q3, q4, q5, q6, q7, q8, q9, q10, MS.i_setI, MS.a_setI, MS.n_setI, MS.i_setA, MS.a_setA, MS.n_setA, MS.i_setN, MS.a_setN, MS.n_setN, ↓reduceIte, Nat.reduceEqDiff, b2_0, b2_1, b2_nn, n0_or, n1_or, n10, n01, dec1, dec2, ob_ok, oe_l, oe_r,pS_isR hr, kind_n hR hA hr hno, pS_no, m1le]
      · refine rlikeT (t := 1) (k := 1) (C' := C2) (S1 := S) (v := nI 0) ?_ ?_ rfl hR G2 hA hio2 (Nat.le_refl _) (by omega)
        · unfold m_cJT_object_J15
          simp (disch := omega) only [gd_ok, cl_nI, nI_s, nI_add, nI_leI, nI_ltI, nI_eq, if_pos, if_neg, q0, q1, q2, q3, q4, q5, q6, q7, q8, q9, q10, CS.i_setI, CS.l_setI, CS.r_setI, CS.a_setI, CS.q_setI, CS.z_setI, CS.i_setL, CS.l_setL, CS.r_setL, CS.a_setL, CS.q_setL, CS.z_setL, CS.i_setR, CS.l_setR, CS.r_setR, CS.a_setR, CS.q_setR, CS.z_setR, CS.i_setA, CS.l_setA, CS.r_setA, CS.a_setA, CS.q_setA, CS.z_setA, CS.i_setQ, CS.l_setQ, CS.r_setQ, CS.a_setQ, CS.q_setQ, CS.z_setQ, CS.i_setF, CS.l_setF, CS.r_setF, CS.a_setF, CS.q_setF, CS.z_setF, CS.i_new, CS.l_new, CS.r_new, CS.a_new, CS.q_new, CS.z_new, Nat.reduceEqDiff, false_and, true_and, and_false, and_true, if_true, if_false, b2_0, b2_1, b2_nn, n0_or, n1_or, n10, n01, dec1, dec2, ob_ok, oe_l, oe_r, gl_ok, gle_ok, gn_s, gv_ok, gv_none, on_none, onSome,u11, hsh]
        · unfold m_robject_J16
          simp (disch := omega) only [gd_ok, cl_nI, nI_s, nI_add, nI_leI, nI_ltI, nI_eq, if_pos, if_neg, q0, q1, q2, q3, q4, q5, q6, q7, q8, q9, q10, MS.i_setI, MS.a_setI, MS.n_setI, MS.i_setA, MS.a_setA, MS.n_setA, MS.i_setN, MS.a_setN, MS.n_setN, ↓reduceIte, Nat.reduceEqDiff, b2_0, b2_1, b2_nn, n0_or, n1_or, n10, n01, dec1, dec2, ob_ok, oe_l, oe_r,pS_isR hr, pS_no]
end CRD
