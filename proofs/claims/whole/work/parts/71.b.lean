/-! THE READING CALLS: index, letter, key. -/
section CRE
variable {S S' : MS} {N : Nat → Nat} {C C' : CS} {A : AS} {r rd : Nat} {bi bf bs bo : List Nat} {ji jf js a : Nat}
theorem ox_inj {x y : Option Nat} (h : ox x = ox y) : x = y := by
  cases x with
  | none =>
    cases y with
    | none => rfl
    | some m => exact absurd (show (0 : Nat) = m + 1 from h) (by omega)
  | some n =>
    cases y with
    | none => exact absurd (show n + 1 = 0 from h) (by omega)
    | some m => rw [show n = m from Nat.succ.inj h]
/-- an element by its id: how many stand before it -/
theorem pS_indexL (hR : RS S A) (hA : AI A) {x : Option Nat} (hkd : A.kd x ≠ 6) (g1 : S.i 50 = nI (A.el r x).length) (g2 : rowN (S.a 48) (A.el r x)) (g4 : ∀ e (h : e < (A.el r x).length), S.a 51 e = b2 (A.flB r (A.el r x)[e])) (i : Int32) :
    (∃ e, ∃ h : e < (A.el r x).length, i = nI (A.id (A.el r x)[e]) ∧ m_rindex_L38 S i (nI 0) (nI 0) = some (.inr (S.setI 0 (nI 0), nI (((A.el r x).take e).filter (A.flB r)).length))) ∨ ((∀ s, s ∈ A.el r x → i ≠ nI (A.id s)) ∧ m_rindex_L38 S i (nI 0) (nI 0) = some (.inl S)) := by
  have hn := hA.1.1
  have hel := el_len hA (r := r) (x := x)
  have := lp_run (body := fun a : MS × Int32 × Int32 × Int32 => m_rindex_B38 a.1 a.2.1 a.2.2.1 a.2.2.2) (fun e a => a = (S, i, nI (((A.el r x).take e).filter (A.flB r)).length, nI e) ∧ ∀ s, s ∈ (A.el r x).take e → i ≠ nI (A.id s))
    (fun o => (∃ e, ∃ h : e < (A.el r x).length, i = nI (A.id (A.el r x)[e]) ∧ o = .inr (S.setI 0 (nI 0), nI (((A.el r x).take e).filter (A.flB r)).length)) ∨ ((∀ s, s ∈ A.el r x → i ≠ nI (A.id s)) ∧ o = .inl S)) (A.el r x).length ?_ FU (S, i, nI 0, nI 0) (by unfold FU; omega) ⟨rfl, by intro k hk; simp at hk⟩
  · obtain ⟨o, h4, h5⟩ := this
    have h4' : m_rindex_L38 S i (nI 0) (nI 0) = some o := h4
    rw [h4']
    rcases h5 with ⟨e, h, h6, rfl⟩ | ⟨h6, rfl⟩
    · exact Or.inl ⟨e, h, h6, rfl⟩
    · exact Or.inr ⟨h6, rfl⟩
  · rintro e _ he ⟨rfl, hk⟩
    unfold m_rindex_B38 m_rindex_J84
    by_cases hin : e < (A.el r x).length
    · have hm := el_mem hA hkd (List.getElem_mem hin)
      have h48 := g2 e hin
      have h8 := (hR.2.1 _ hm.1).1
      have hll : (((A.el r x).take e).filter (A.flB r)).length ≤ e := by
        refine Nat.le_trans (List.length_filter_le _ _) ?_
        rw [List.length_take]
        omega
      have hts : ((A.el r x).take (e + 1)).filter (A.flB r) = ((A.el r x).take e).filter (A.flB r) ++ (if A.flB r (A.el r x)[e] then [(A.el r x)[e]] else []) := by
        rw [List.take_succ_eq_append_getElem hin, List.filter_append]
        congr 1
        cases hq : A.flB r (A.el r x)[e] <;> simp [hq]
      simp (disch := omega) only [gd_ok, cl_nI, nI_s, nI_add, nI_leI, nI_ltI, nI_eq, if_pos, if_neg, q0, q1, q2, q3, q4, q5, q6, q7, q8, q9, q10, MS.i_setI, MS.a_setI, MS.n_setI, MS.i_setA, MS.a_setA, MS.n_setA, MS.i_setN, MS.a_setN, MS.n_setN, ↓reduceIte, Nat.reduceEqDiff, b2_0, b2_1, b2_nn, n0_or, n1_or, n10, n01, dec1, dec2, ob_ok, oe_l, oe_r,g1, h48, h8, g4 e hin]
      by_cases c0 : nI (A.id (A.el r x)[e]) = i
      · rw [if_pos c0]
        right
        exact ⟨_, rfl, Or.inl ⟨e, hin, c0.symm, rfl⟩⟩
      · rw [if_neg c0]
        have hk2 : ∀ s, s ∈ (A.el r x).take (e + 1) → i ≠ nI (A.id s) := by
          intro s hs
          rw [List.take_succ_eq_append_getElem hin, List.mem_append] at hs
          rcases hs with hs | hs
          · exact hk s hs
          · rw [List.mem_singleton.mp hs]
            exact fun h => c0 h.symm
        left
        by_cases c1 : A.flB r (A.el r x)[e] = false
        · rw [if_pos c1]
          exact ⟨_, rfl, hin, by rw [hts, c1]; simp, hk2⟩
        · rw [if_neg c1]
          exact ⟨_, rfl, hin, by rw [hts, if_pos (by simpa using c1)]; simp, hk2⟩
    · right
      simp (disch := omega) only [gd_ok, cl_nI, nI_s, nI_add, nI_leI, nI_ltI, nI_eq, if_pos, if_neg, q0, q1, q2, q3, q4, q5, q6, q7, q8, q9, q10, MS.i_setI, MS.a_setI, MS.n_setI, MS.i_setA, MS.a_setA, MS.n_setA, MS.i_setN, MS.a_setN, MS.n_setN, ↓reduceIte, Nat.reduceEqDiff, b2_0, b2_1, b2_nn, n0_or, n1_or, n10, n01, dec1, dec2, ob_ok, oe_l, oe_r,g1]
      rw [List.take_of_length_le (by omega)] at hk
      exact ⟨_, rfl, Or.inr ⟨hk, rfl⟩⟩
theorem tw_take {l : List Nat} (hd : l.Nodup) {e : Nat} (h : e < l.length) : l.takeWhile (fun t => decide (some l[e] ≠ some t)) = l.take e := by
  have h1 : l = l.take e ++ l[e] :: l.drop (e + 1) := by rw [List.getElem_cons_drop, List.take_append_drop]
  have hne : ∀ t, t ∈ l.take e → decide (some l[e] ≠ some t) = true := by
    intro t ht
    obtain ⟨k, hk, rfl⟩ := List.getElem_of_mem ht
    rw [List.length_take] at hk
    rw [List.getElem_take]
    refine decide_eq_true (fun h2 => ?_)
    have := (List.getElem_inj (h₀ := h) (h₁ := by omega) hd).mp (Option.some.inj h2)
    omega
  have h2 : ∀ (a b : List Nat) (y : Nat), (∀ t, t ∈ a → decide (some y ≠ some t) = true) → (a ++ y :: b).takeWhile (fun t => decide (some y ≠ some t)) = a := by
    intro a b y ha
    rw [List.takeWhile_append_of_pos (by simpa using ha), List.takeWhile_cons_of_neg (by simp), List.append_nil]
  have h3 := h2 (l.take e) (l.drop (e + 1)) l[e] hne
  rw [← h1] at h3
  exact h3
/-- filled ones before an element: in all places or in those of the view -/
theorem before_el (hA : AI A) {x : Option Nat} (hkd : A.kd x ≠ 6) {e : Nat} (h : e < (A.el r x).length) :
    ((A.L x).takeWhile (fun t => decide (some (A.el r x)[e] ≠ some t))).filter (A.flB r) = ((A.el r x).take e).filter (A.flB r) := by
  have hLn : (A.L x).Nodup := (hA.2.2.1.2.2.2.2.2.2.2.2.1 x).1
  have hen : (A.el r x).Nodup := by unfold AS.el; exact hLn.filter _
  rw [← tw_take hen h]
  have hfl : ∀ s, s ∈ A.L x → A.flB r s = true → A.inV r s = true := by
    intro s hs hf
    have := L_mem hA hs
    exact (cd_inV hA (by rw [this.2.1]; exact hkd) (flB_iff.mp hf)).2
  have hmem : A.inV r (A.el r x)[e] = true := (el_mem hA hkd (List.getElem_mem h)).2.2.2.2
  generalize (A.el r x)[e] = y at hmem ⊢
  unfold AS.el
  clear h hen hLn
  revert hfl
  generalize A.L x = l
  intro hfl
  induction l with
  | nil => rfl
  | cons b l ih =>
    have ih' := ih (fun s hs => hfl s (List.mem_cons_of_mem _ hs))
    by_cases c : b = y
    · subst c
      rw [List.takeWhile_cons_of_neg (by simp), List.filter_cons_of_pos hmem, List.takeWhile_cons_of_neg (by simp)]
    · have c' : decide (some y ≠ some b) = true := decide_eq_true (fun h => c (Option.some.inj h).symm)
      rw [List.takeWhile_cons_of_pos (p := fun t => decide (some y ≠ some t)) c']
      by_cases c2 : A.inV r b = true
      · rw [List.filter_cons_of_pos c2, List.takeWhile_cons_of_pos (p := fun t => decide (some y ≠ some t)) c', List.filter_cons, List.filter_cons, ih']
      · rw [List.filter_cons_of_neg c2, List.filter_cons_of_neg (fun h => c2 (hfl b List.mem_cons_self h)), ih']
theorem call_index (hI : INV S N C A rd) (hrd : rd + 60000 < 2 ^ 30) (x1 x2 x3 : Int32) : RLIKE [(1, 1), (3, 2)] A rd N (m_cJT_index N 0 C x1 x2 x3) (m_rindex S x1 x2 x3) := by
  obtain ⟨hR, G, hA, bi, bf, bs, bo, ji, jf, js, a, hio⟩ := hI
  obtain ⟨u0, u1, u2, u3, u4, u5, u6, u7, u8, u9, u10, u11, u12, u13, u14, u15, u16, u17, u18⟩ := G.nn
  obtain ⟨s1, s2, s3, s4, s5, s6, s7, s8, s9, s10, s11, s12, s13, s14, s15, s16, s17, s18, s19, s20, s21⟩ := G.st
  have hnn := hA.1.1
  unfold m_cJT_index m_cJT_index_J0 m_rindex m_rindex_J0
  rcases rep_or x1 with hx1 | ⟨r, hr, rfl⟩
  · refine rlikeT (t := 1) (k := 1) (C' := C) (S1 := S) (v := nI 0) ?_ ?_ rfl hR G hA hio (Nat.le_refl _) (by omega)
    · simp (disch := omega) only [gd_ok, cl_nI, nI_s, nI_add, nI_leI, nI_ltI, nI_eq, if_pos, if_neg, q0, q1, q2, q3, q4, q5, q6, q7, q8, q9, q10, CS.i_setI, CS.l_setI, CS.r_setI, CS.a_setI, CS.q_setI, CS.z_setI, CS.i_setL, CS.l_setL, CS.r_setL, CS.a_setL, CS.q_setL, CS.z_setL, CS.i_setR, CS.l_setR, CS.r_setR, CS.a_setR, CS.q_setR, CS.z_setR, CS.i_setA, CS.l_setA, CS.r_setA, CS.a_setA, CS.q_setA, CS.z_setA, CS.i_setQ, CS.l_setQ, CS.r_setQ, CS.a_setQ, CS.q_setQ, CS.z_setQ, CS.i_setF, CS.l_setF, CS.r_setF, CS.a_setF, CS.q_setF, CS.z_setF, CS.i_new, CS.l_new, CS.r_new, CS.a_new, CS.q_new, CS.z_new, Nat.reduceEqDiff, false_and, true_and, and_false, and_true, if_true, if_false, b2_0, b2_1, b2_nn, n0_or, n1_or, n10, n01, dec1, dec2, ob_ok, oe_l, oe_r, gl_ok, gle_ok, gn_s, gv_ok, gv_none, on_none, onSome,u11, cJ_shownN hx1]
    · simp (disch := omega) only [gd_ok, cl_nI, nI_s, nI_add, nI_leI, nI_ltI, nI_eq, if_pos, if_neg, q0, q1, q2, q3, q4, q5, q6, q7, q8, q9, q10, MS.i_setI, MS.a_setI, MS.n_setI, MS.i_setA, MS.a_setA, MS.n_setA, MS.i_setN, MS.a_setN, MS.n_setN, ↓reduceIte, Nat.reduceEqDiff, b2_0, b2_1, b2_nn, n0_or, n1_or, n10, n01, dec1, dec2, ob_ok, oe_l, oe_r,lkN hx1, pS_no]
  · obtain ⟨C2, hsh, G2, hv2, hfr2⟩ := cJ_shown G hA hr
    have hio2 := hio.fr frS.refl hfr2
    have hvw : C2.r 11 2 0 = some 0 := G2.st.2.2.1
    rcases cJ_listAt G2 hA hv2 x2 with ⟨x, hx, rfl, hkd, hmp⟩ | ⟨x, hx, rfl, hkd, hmp⟩ | ⟨hno, hmp⟩
    · have hlk := lkL hR hA hr hx hkd
      have hxl := oV_ltn hx
      have hox := ox_lt hxl
      have hln := L_len hA (x := x)
      obtain ⟨S1, S3, hl1, hl2, hLS3⟩ := pS_lm hR hA hr hx hkd
      have hR3 := hLS3.RS hR
      have hio4 := hio2.fr hLS3.frS frC.refl
      obtain ⟨g1, g2, g3, g4⟩ := hLS3.get
      have hil := pS_indexL hR3 hA hkd g1 g2 g4 x3
      -- the class: the op, or none
      have hcl : (∃ o, o ∈ A.el r x ∧ x3 = nI (A.id o) ∧ m_cVw_opAt N 0 C2 x3 = some (C2, some (o + 1))) ∨ ((∀ s, s ∈ A.el r x → x3 ≠ nI (A.id s)) ∧ (gl 0 (N 11) (oe (m_cJT_shown N 0 C (nI r)) (fun o_1 => oe (m_cJT_listAt N 0 o_1.1 (nI (A.oi x))) (fun o_4 => gn (o_4.1.r 11 2 0) (N 10) (fun j_7 => ob (m_cVw_opAt N j_7 o_4.1 x3) (fun o_10 => on o_10.2 (m_cJT_index_J46 N 0 o_10.1) (fun j_12 => gl j_12 (N 3) ((if o_10.1.i 3 5 j_12 = 0 then m_cJT_index_J46 N 0 o_10.1 else gv (o_10.1.r 3 1 j_12) (N 3) (gv o_4.2 (N 3) ((if (o_10.1.r 3 1 j_12) = o_4.2 then gn o_4.2 (N 3) (fun j_18 => gn (o_10.1.r 11 2 0) (N 10) (fun j_21 => ob (m_cVw_filledBefore N j_21 o_10.1 (o_10.1.r 3 11 j_12) j_18) (fun o_24 => some (.inl (o_24.1, o_24.2))))) else m_cJT_index_J46 N 0 o_10.1))))))))) (fun t_6 => some (.inr t_6))) (fun t_3 => some (.inr t_3))) = (some (.inr (C2, 3)) : Option ((CS × Int32) ⊕ (CS × Nat))))) := by
        rcases cV_opAt G2 hA hv2 x3 with ⟨h0, hop⟩ | ⟨o, ho, hov, he, hop⟩ | ⟨h0, hno, hop⟩
        · right
          constructor
          · intro s hs he
            have hm := el_mem hA hkd hs
            have hi := hA.2.2.1.1 s hm.1
            have := id_lt hA hm.1
            rw [h0, nI_eq (by omega) (by omega)] at he
            have := hi.1
            omega
          · unfold m_cJT_index_J46
            simp (disch := omega) only [gd_ok, cl_nI, nI_s, nI_add, nI_leI, nI_ltI, nI_eq, if_pos, if_neg, q0, q1, q2, q3, q4, q5, q6, q7, q8, q9, q10, CS.i_setI, CS.l_setI, CS.r_setI, CS.a_setI, CS.q_setI, CS.z_setI, CS.i_setL, CS.l_setL, CS.r_setL, CS.a_setL, CS.q_setL, CS.z_setL, CS.i_setR, CS.l_setR, CS.r_setR, CS.a_setR, CS.q_setR, CS.z_setR, CS.i_setA, CS.l_setA, CS.r_setA, CS.a_setA, CS.q_setA, CS.z_setA, CS.i_setQ, CS.l_setQ, CS.r_setQ, CS.a_setQ, CS.q_setQ, CS.z_setQ, CS.i_setF, CS.l_setF, CS.r_setF, CS.a_setF, CS.q_setF, CS.z_setF, CS.i_new, CS.l_new, CS.r_new, CS.a_new, CS.q_new, CS.z_new, Nat.reduceEqDiff, false_and, true_and, and_false, and_true, if_true, if_false, b2_0, b2_1, b2_nn, n0_or, n1_or, n10, n01, dec1, dec2, ob_ok, oe_l, oe_r, gl_ok, gle_ok, gn_s, gv_ok, gv_none, on_none, onSome,u11, u3, u10, hsh, hmp, hvw, hop, G2.rt.2.2.2.1]
        · by_cases hin : A.ins o = 1 ∧ A.obj o = x
          · left
            refine ⟨o, ?_, he, hop⟩
            unfold AS.el
            rw [List.mem_filter]
            refine ⟨?_, hov⟩
            rw [← hin.2]
            exact ins_L hA ho hin.1
          · right
            constructor
            · intro s hs hs2
              have hm := el_mem hA hkd hs
              have h1 := id_lt hA hm.1
              have h2 := id_lt hA ho
              have h3 : A.id o = A.id s := (nI_eq (by omega) (by omega)).mp (he.symm.trans hs2)
              have := inV_inj hA ho hm.1 hov hm.2.2.2.2 h3
              subst this
              exact hin ⟨hm.2.2.2.1, hm.2.1⟩
            · have hopc := G2.op o ho
              have hi := (hA.2.2.1.1 o ho).2.2.2.2.2.2
              have hob := ox_lt (A := A) (x := A.obj o) (oV_ltn (obj_inV hA ho hov))
              unfold m_cJT_index_J46
              simp (disch := omega) only [gd_ok, cl_nI, nI_s, nI_add, nI_leI, nI_ltI, nI_eq, if_pos, if_neg, q0, q1, q2, q3, q4, q5, q6, q7, q8, q9, q10, CS.i_setI, CS.l_setI, CS.r_setI, CS.a_setI, CS.q_setI, CS.z_setI, CS.i_setL, CS.l_setL, CS.r_setL, CS.a_setL, CS.q_setL, CS.z_setL, CS.i_setR, CS.l_setR, CS.r_setR, CS.a_setR, CS.q_setR, CS.z_setR, CS.i_setA, CS.l_setA, CS.r_setA, CS.a_setA, CS.q_setA, CS.z_setA, CS.i_setQ, CS.l_setQ, CS.r_setQ, CS.a_setQ, CS.q_setQ, CS.z_setQ, CS.i_setF, CS.l_setF, CS.r_setF, CS.a_setF, CS.q_setF, CS.z_setF, CS.i_new, CS.l_new, CS.r_new, CS.a_new, CS.q_new, CS.z_new, Nat.reduceEqDiff, false_and, true_and, and_false, and_true, if_true, if_false, b2_0, b2_1, b2_nn, n0_or, n1_or, n10, n01, dec1, dec2, ob_ok, oe_l, oe_r, gl_ok, gle_ok, gn_s, gv_ok, gv_none, on_none, onSome,u11, u3, u10, hsh, hmp, hvw, hop, hopc.2.2.2.2.2.1, hopc.2.1]
              by_cases c : A.ins o = 0
              · rw [if_pos c]
              · rw [if_neg c, if_neg]
                intro h
                have h2 := ox_inj (Option.some.inj h)
                exact hin ⟨by omega, h2⟩
        · right
          constructor
          · intro s hs
            have hm := el_mem hA hkd hs
            exact hno s hm.1 hm.2.2.2.2
          · unfold m_cJT_index_J46
            simp (disch := omega) only [gd_ok, cl_nI, nI_s, nI_add, nI_leI, nI_ltI, nI_eq, if_pos, if_neg, q0, q1, q2, q3, q4, q5, q6, q7, q8, q9, q10, CS.i_setI, CS.l_setI, CS.r_setI, CS.a_setI, CS.q_setI, CS.z_setI, CS.i_setL, CS.l_setL, CS.r_setL, CS.a_setL, CS.q_setL, CS.z_setL, CS.i_setR, CS.l_setR, CS.r_setR, CS.a_setR, CS.q_setR, CS.z_setR, CS.i_setA, CS.l_setA, CS.r_setA, CS.a_setA, CS.q_setA, CS.z_setA, CS.i_setQ, CS.l_setQ, CS.r_setQ, CS.a_setQ, CS.q_setQ, CS.z_setQ, CS.i_setF, CS.l_setF, CS.r_setF, CS.a_setF, CS.q_setF, CS.z_setF, CS.i_new, CS.l_new, CS.r_new, CS.a_new, CS.q_new, CS.z_new, Nat.reduceEqDiff, false_and, true_and, and_false, and_true, if_true, if_false, b2_0, b2_1, b2_nn, n0_or, n1_or, n10, n01, dec1, dec2, ob_ok, oe_l, oe_r, gl_ok, gle_ok, gn_s, gv_ok, gv_none, on_none, onSome,u11, u3, u10, hsh, hmp, hvw, hop]
      rcases hcl with ⟨o, hoe, rfl, hop⟩ | ⟨hnoe, hcl⟩
      · have hm := el_mem hA hkd hoe
        have hopc := G2.op o hm.1
        obtain ⟨C3, hfb, hV3⟩ := cV_filledBefore G2 hA hv2 hxl (by omega) (some o) (fun s hs => by
          rw [← Option.some.inj hs]
          unfold AS.el at hoe
          exact (List.mem_filter.mp hoe).1)
        obtain ⟨rd3, r31, r32, G3⟩ := hV3.toRC G2
        have hio5 := hio4.fr frS.refl hV3.fr
        rcases hil with ⟨e, he, hid, hil⟩ | ⟨h, _⟩
        · have hm2 := el_mem hA hkd (List.getElem_mem he)
          have h1 := id_lt hA hm.1
          have h2 := id_lt hA hm2.1
          have h3 := inV_inj hA hm.1 hm2.1 hm.2.2.2.2 hm2.2.2.2.2 ((nI_eq (by omega) (by omega)).mp hid)
          rw [h3, before_el hA hkd he, ← h3] at hfb
          have hi1 : C2.i 3 5 (o + 1) = nI 1 := by rw [hopc.2.2.2.2.2.1, hm.2.2.2.1]
          have hob : C2.r 3 1 (o + 1) = some (ox x) := by rw [hopc.2.1, hm.2.1]
          have hsp : C2.r 3 11 (o + 1) = some (A.sj o) := by rw [hopc.2.2.2.2.2.2.2.2.2.2, hm.2.2.1]
          have ho := hm.1
          rw [Option.map_some] at hfb
          refine rlikeV (C' := C3) (S1 := S3) (v := nI (((A.el r x).take e).filter (A.flB r)).length) ?_ ?_ hR3 G3 hA hio5 r31 (by omega)
          · simp (disch := omega) only [gd_ok, cl_nI, nI_s, nI_add, nI_leI, nI_ltI, nI_eq, if_pos, if_neg, q0, q1, q2, q3, q4, q5, q6, q7, q8, q9, q10, CS.i_setI, CS.l_setI, CS.r_setI, CS.a_setI, CS.q_setI, CS.z_setI, CS.i_setL, CS.l_setL, CS.r_setL, CS.a_setL, CS.q_setL, CS.z_setL, CS.i_setR, CS.l_setR, CS.r_setR, CS.a_setR, CS.q_setR, CS.z_setR, CS.i_setA, CS.l_setA, CS.r_setA, CS.a_setA, CS.q_setA, CS.z_setA, CS.i_setQ, CS.l_setQ, CS.r_setQ, CS.a_setQ, CS.q_setQ, CS.z_setQ, CS.i_setF, CS.l_setF, CS.r_setF, CS.a_setF, CS.q_setF, CS.z_setF, CS.i_new, CS.l_new, CS.r_new, CS.a_new, CS.q_new, CS.z_new, Nat.reduceEqDiff, false_and, true_and, and_false, and_true, if_true, if_false, b2_0, b2_1, b2_nn, n0_or, n1_or, n10, n01, dec1, dec2, ob_ok, oe_l, oe_r, gl_ok, gle_ok, gn_s, gv_ok, gv_none, on_none, onSome,u11, u3, u10, hsh, hmp, hvw, hop, hi1, hob, hsp, hfb]
          · simp (disch := omega) only [gd_ok, cl_nI, nI_s, nI_add, nI_leI, nI_ltI, nI_eq, if_pos, if_neg, q0, q1, q2, q3, q4, q5, q6, q7, q8, q9, q10, MS.i_setI, MS.a_setI, MS.n_setI, MS.i_setA, MS.a_setA, MS.n_setA, MS.i_setN, MS.a_setN, MS.n_setN, ↓reduceIte, Nat.reduceEqDiff, b2_0, b2_1, b2_nn, n0_or, n1_or, n10, n01, dec1, dec2, ob_ok, oe_l, oe_r,hlk, hl1, hl2, hil]
        · exact absurd rfl (h o hoe)
      · refine rlikeT (t := 3) (k := 2) (C' := C2) (S1 := S3) (v := nI 0) hcl ?_ rfl hR3 G2 hA hio4 (Nat.le_refl _) (by omega)
        rcases hil with ⟨e, he, hid, hil⟩ | ⟨_, hil⟩
        · exact absurd hid (hnoe _ (List.getElem_mem he))
        · simp (disch := omega) only [gd_ok, cl_nI, nI_s, nI_add, nI_leI, nI_ltI, nI_eq, if_pos, if_neg, q0, q1, q2, q3, q4, q5, q6, q7, q8, q9, q10, MS.i_setI, MS.a_setI, MS.n_setI, MS.i_setA, MS.a_setA, MS.n_setA, MS.i_setN, MS.a_setN, MS.n_setN, ↓reduceIte, Nat.reduceEqDiff, b2_0, b2_1, b2_nn, n0_or, n1_or, n10, n01, dec1, dec2, ob_ok, oe_l, oe_r,hlk, hl1, hl2, hil, pS_no]
    · refine rlikeT (t := 1) (k := 1) (C' := C2) (S1 := S) (v := nI 0) ?_ ?_ rfl hR G2 hA hio2 (Nat.le_refl _) (by omega)
      · simp (disch := omega) only [gd_ok, cl_nI, nI_s, nI_add, nI_leI, nI_ltI, nI_eq, if_pos, if_neg, q0, q1, q2, q3, q4, q5, q6, q7, q8, q9, q10, CS.i_setI, CS.l_setI, CS.r_setI, CS.a_setI, CS.q_setI, CS.z_setI, CS.i_setL, CS.l_setL, CS.r_setL, CS.a_setL, CS.q_setL, CS.z_setL, CS.i_setR, CS.l_setR, CS.r_setR, CS.a_setR, CS.q_setR, CS.z_setR, CS.i_setA, CS.l_setA, CS.r_setA, CS.a_setA, CS.q_setA, CS.z_setA, CS.i_setQ, CS.l_setQ, CS.r_setQ, CS.a_setQ, CS.q_setQ, CS.z_setQ, CS.i_setF, CS.l_setF, CS.r_setF, CS.a_setF, CS.q_setF, CS.z_setF, CS.i_new, CS.l_new, CS.r_new, CS.a_new, CS.q_new, CS.z_new, Nat.reduceEqDiff, false_and, true_and, and_false, and_true, if_true, if_false, b2_0, b2_1, b2_nn, n0_or, n1_or, n10, n01, dec1, dec2, ob_ok, oe_l, oe_r, gl_ok, gle_ok, gn_s, gv_ok, gv_none, on_none, onSome,u11, hsh, hmp]
      · simp (disch := omega) only [gd_ok, cl_nI, nI_s, nI_add, nI_leI, nI_ltI, nI_eq, if_pos, if_neg, q0, q1, q2, q3, q4, q5, q6, q7, q8, q9, q10, MS.i_setI, MS.a_setI, MS.n_setI, MS.i_setA, MS.a_setA, MS.n_setA, MS.i_setN, MS.a_setN, MS.n_setN, ↓reduceIte, Nat.reduceEqDiff, b2_0, b2_1, b2_nn, n0_or, n1_or, n10, n01, dec1, dec2, ob_ok, oe_l, oe_r,lkM hR hA hr hx hkd, pS_no]
    · refine rlikeT (t := 3) (k := 2) (C' := C2) (S1 := S) (v := nI 0) ?_ ?_ rfl hR G2 hA hio2 (Nat.le_refl _) (by omega)
      · simp (disch := omega) only [gd_ok, cl_nI, nI_s, nI_add, nI_leI, nI_ltI, nI_eq, if_pos, if_neg, q0, q1, q2, q3, q4, q5, q6, q7, q8, q9, q10, CS.i_setI, CS.l_setI, CS.r_setI, CS.a_setI, CS.q_setI, CS.z_setI, CS.i_setL, CS.l_setL, CS.r_setL, CS.a_setL, CS.q_setL, CS.z_setL, CS.i_setR, CS.l_setR, CS.r_setR, CS.a_setR, CS.q_setR, CS.z_setR, CS.i_setA, CS.l_setA, CS.r_setA, CS.a_setA, CS.q_setA, CS.z_setA, CS.i_setQ, CS.l_setQ, CS.r_setQ, CS.a_setQ, CS.q_setQ, CS.z_setQ, CS.i_setF, CS.l_setF, CS.r_setF, CS.a_setF, CS.q_setF, CS.z_setF, CS.i_new, CS.l_new, CS.r_new, CS.a_new, CS.q_new, CS.z_new, Nat.reduceEqDiff, false_and, true_and, and_false, and_true, if_true, if_false, b2_0, b2_1, b2_nn, n0_or, n1_or, n10, n01, dec1, dec2, ob_ok, oe_l, oe_r, gl_ok, gle_ok, gn_s, gv_ok, gv_none, on_none, onSome,u11, hsh, hmp]
      · simp (disch := omega) only [gd_ok, cl_nI, nI_s, nI_add, nI_leI, nI_ltI, nI_eq, if_pos, if_neg, q0, q1, q2, q3, q4, q5, q6, q7, q8, q9, q10, MS.i_setI, MS.a_setI, MS.n_setI, MS.i_setA, MS.a_setA, MS.n_setA, MS.i_setN, MS.a_setN, MS.n_setN, ↓reduceIte, Nat.reduceEqDiff, b2_0, b2_1, b2_nn, n0_or, n1_or, n10, n01, dec1, dec2, ob_ok, oe_l, oe_r,lkX hR hA hr hno, pS_no]
end CRE
