/-! THE CLASS: openKey, openElement. -/
theorem lpA_run0 {α ε : Type} {body : α → Option ((α ⊕ ε) × Nat × Nat)} (I : Nat → α → Prop) (P : ε → Prop) (n : Nat)
    (h : ∀ i a, i ≤ n → I i a → (∃ a', body a = some (.inl a', 0, 0) ∧ i < n ∧ I (i + 1) a') ∨ (∃ e, body a = some (.inr e, 0, 0) ∧ P e)) :
    ∀ m a, n < m → I 0 a → ∃ e, lpA body m a = some (e, 0, 0) ∧ P e := by
  have key : ∀ d i m a, i + d = n → d < m → I i a → ∃ e, lpA body m a = some (e, 0, 0) ∧ P e := by
    intro d
    induction d with
    | zero =>
      intro i m a hi hm ha
      obtain ⟨m', rfl⟩ : ∃ m', m = m' + 1 := ⟨m - 1, by omega⟩
      rcases h i a (by omega) ha with ⟨a', _, hlt, _⟩ | ⟨e, h1, h2⟩
      · omega
      · exact ⟨e, by rw [lpA, h1], h2⟩
    | succ d ih =>
      intro i m a hi hm ha
      obtain ⟨m', rfl⟩ : ∃ m', m = m' + 1 := ⟨m - 1, by omega⟩
      rcases h i a (by omega) ha with ⟨a', h1, _, h3⟩ | ⟨e, h1, h2⟩
      · obtain ⟨e, h4, h5⟩ := ih (i + 1) m' a' (by omega) (by omega) h3
        exact ⟨e, by rw [lpA, h1]; simp only; rw [h4]; rfl, h5⟩
      · exact ⟨e, by rw [lpA, h1], h2⟩
  intro m a hm ha
  exact key n 0 m a (by omega) hm ha
section OPK
variable {N : Nat → Nat} {C : CS} {A B : AS} {r rd : Nat} {x : Option Nat} {act : Nat} {num : Int64} {ins : Nat} {par : Option Nat} {s : Nat} {key pre : List Nat} {pl : Nat} {Lx Os : List Nat}
/-- bf, af: the spots before and behind the end of m1 -/
def CBF (C : CS) (A : AS) (x : Option Nat) (m1 : List Nat) (bf af : Option Nat) : Prop := (bf = none ∧ m1 = [] ∧ af = C.r 3 13 (ox x)) ∨ ∃ m b, bf = some (A.sj b) ∧ m1 = m ++ [b] ∧ af = C.r 7 2 (A.sj b)
theorem CBF.step {m1 : List Nat} {t : Nat} : CBF C A x (m1 ++ [t]) (some (A.sj t)) (C.r 7 2 (A.sj t)) := Or.inr ⟨m1, t, rfl, rfl, rfl⟩
/-- keys compared while the new op isn't in its place -/
theorem cS_cmpKeyV (hA : AI A) {i0 : Nat} {p0 : Option Nat} (U : RCv N C A (A.mk r x act num ins par s key pre pl Lx Os) i0 p0) (hkn : A.kn + key.length ≤ 24576) {t : Nat} (ht : t < A.n) (hts : A.sp t = t) :
    ∃ d : Int32, m_cSt_compareKey N 0 C (A.sj t) 0 (nI A.kn) (nI key.length) = some (C, d) ∧ d.toInt = kcmp (A.key t) key := by
  obtain ⟨⟨u0, u1, u2, u3, u4, u5, u6, u7, u8, u9, u10, u11, u12, u13, u14, u15, u16, u17, u18⟩, b2, b3, b4, b5, b6, b7, b8, b9, b10, b11, b12, b13, b14⟩ := U
  obtain ⟨s1, s2, s3, s4, s5, s6, s7, s8, s9, s10, s11, s12, s13, s14, s15, s16, s17, s18, s19, s20, s21⟩ := b3
  have l1 := b13.1 t ht hts
  have hop := b11 t (by rw [mk_n]; omega)
  have hne : ¬ t = A.n := by omega
  simp only [mk_ba, mk_key, hne, if_false] at hop
  have hkpt := b8.2 t (by rw [mk_n]; omega)
  simp only [mk_ba, mk_key, hne, if_false] at hkpt
  have hkpn := b8.2 A.n (by rw [mk_n]; omega)
  rw [mk_ba, mk_key, if_pos rfl, if_pos rfl] at hkpn
  rw [mk_kn] at hkpt hkpn
  have hz : C.z 13 0 = 24576 := b4.2.2.2.2.2.1
  have hk1 : C.i 5 1 0 = nI (A.kn + key.length) := b8.1
  have hRW : RW C 0 (A.kn + key.length) := ⟨by omega, b4.2.2.2.2.2.2.2.2.2.2.2.2.2.2.1 0 (by omega), hk1, by rw [hz]; exact hkn, by rw [hz]; decide⟩
  obtain ⟨d, d1, d2⟩ := cR_cmp u5 u13 hRW hkpt.2.1 (by omega) hRW hkpn.2.1 (by omega)
  refine ⟨d, ?_, d2⟩
  unfold m_cSt_compareKey m_cSt_compareKey_J0
  simp (disch := omega) only [gd_ok, cl_nI, nI_s, nI_add, nI_leI, nI_ltI, nI_eq, if_pos, if_neg, q0, q1, q2, q3, q4, q5, q6, q7, q8, q9, q10, CS.i_setI, CS.l_setI, CS.r_setI, CS.a_setI, CS.q_setI, CS.z_setI, CS.i_setL, CS.l_setL, CS.r_setL, CS.a_setL, CS.q_setL, CS.z_setL, CS.i_setR, CS.l_setR, CS.r_setR, CS.a_setR, CS.q_setR, CS.z_setR, CS.i_setA, CS.l_setA, CS.r_setA, CS.a_setA, CS.q_setA, CS.z_setA, CS.i_setQ, CS.l_setQ, CS.r_setQ, CS.a_setQ, CS.q_setQ, CS.z_setQ, CS.i_setF, CS.l_setF, CS.r_setF, CS.a_setF, CS.q_setF, CS.z_setF, CS.i_new, CS.l_new, CS.r_new, CS.a_new, CS.q_new, CS.z_new, Nat.reduceEqDiff, false_and, true_and, and_false, and_true, if_true, if_false, b2_0, b2_1, b2_nn, n0_or, n1_or, n10, n01, dec1, dec2, ob_ok, oe_l, oe_r, gl_ok, gle_ok, gn_s, gv_ok, gv_none, on_none, onSome,u8, u7, u3, u5, l1.2.1, s10, hop.2.2.2.2.2.1, hop.2.2.2.2.2.2.1, d1]
theorem cS_openKey (hA : AI A) (hr : r < 8) (hx : ∀ m, x = some m → m < A.n) (hkn : A.kn + key.length ≤ 24576) {l1 l2 : List Nat} (h1 : l1 = (A.L x).takeWhile (fun t => decide (kcmp (A.key t) key < 0))) (h2 : l2 = (A.L x).dropWhile (fun t => decide (kcmp (A.key t) key < 0)))
    (U : RCv N C A (A.mk r x act num 0 none A.n key pre pl (l1 ++ A.n :: l2) [A.n]) 0 none) :
    ∃ r', m_cSt_openKey N 0 C (A.n + 1) = some ((Nup N 7, (C.new 7 (N 7) 0).setP r'), 1, 3) ∧ RC0 (Nup N 7) ((C.new 7 (N 7) 0).setP r') (A.mk r x act num 0 none A.n key pre pl (l1 ++ A.n :: l2) [A.n]) ∧ (∀ k g j, k ≠ 3 → k ≠ 7 → r' k g j = C.r k g j) := by
  have U' := U
  obtain ⟨⟨u0, u1, u2, u3, u4, u5, u6, u7, u8, u9, u10, u11, u12, u13, u14, u15, u16, u17, u18⟩, b2, b3, b4, b5, b6, b7, b8, b9, b10, b11, b12, b13, b14⟩ := U
  obtain ⟨s1, s2, s3, s4, s5, s6, s7, s8, s9, s10, s11, s12, s13, s14, s15, s16, s17, s18, s19, s20, s21⟩ := b3
  have hox := ox_lt hx
  have hL : A.L x = l1 ++ l2 := by rw [h1, h2, List.takeWhile_append_dropWhile]
  have hln := L_len hA (x := x)
  have hnn := hA.1.1
  have hop := b11 A.n (by rw [mk_n]; omega)
  rw [mk_obj, mk_ba, mk_key, if_pos rfl, if_pos rfl, if_pos rfl] at hop
  have hch := b13.2.2 x hx
  have := lpA_run0 (body := fun c : (Nat → Nat) × CS × Option Nat × Option Nat × Option Nat => m_cSt_openKey_B10 c.1 0 c.2.1 c.2.2.1 c.2.2.2.1 c.2.2.2.2)
    (fun i c => ∃ m1 m2 bf af, A.L x = m1 ++ m2 ∧ m1.length = i ∧ c = (N, C, some (A.n + 1), bf, af) ∧ CBF C A x m1 bf af ∧ chn (C.r 7 2) af (m2.map A.sj) ∧ l1 = m1 ++ m2.takeWhile (fun t => decide (kcmp (A.key t) key < 0)) ∧ l2 = m2.dropWhile (fun t => decide (kcmp (A.key t) key < 0)))
    (fun e => ∃ bf af, e = (N, C, some (A.n + 1), bf, af) ∧ CBF C A x l1 bf af) (A.L x).length ?_ FU (N, C, some (A.n + 1), none, C.r 3 13 (ox x)) (by unfold FU; omega) ⟨[], A.L x, none, C.r 3 13 (ox x), rfl, rfl, rfl, Or.inl ⟨rfl, rfl, rfl⟩, hch, by simpa using h1, h2⟩
  · obtain ⟨e, g1, bf, af, rfl, g2⟩ := this
    have g1' : m_cSt_openKey_L10 N 0 C (some (A.n + 1)) none (C.r 3 13 (ox x)) = some ((N, C, some (A.n + 1), bf, af), 0, 0) := by
      unfold m_cSt_openKey_L10
      exact g1
    obtain ⟨r', k1, k2, k3⟩ := cS_openBetween hA hr hL hx U' g2
    refine ⟨r', ?_, k2, k3⟩
    unfold m_cSt_openKey m_cSt_openKey_J0 m_cSt_openKey_J44
    simp (disch := omega) only [gd_ok, cl_nI, nI_s, nI_add, nI_leI, nI_ltI, nI_eq, if_pos, if_neg, q0, q1, q2, q3, q4, q5, q6, q7, q8, q9, q10, CS.i_setI, CS.l_setI, CS.r_setI, CS.a_setI, CS.q_setI, CS.z_setI, CS.i_setL, CS.l_setL, CS.r_setL, CS.a_setL, CS.q_setL, CS.z_setL, CS.i_setR, CS.l_setR, CS.r_setR, CS.a_setR, CS.q_setR, CS.z_setR, CS.i_setA, CS.l_setA, CS.r_setA, CS.a_setA, CS.q_setA, CS.z_setA, CS.i_setQ, CS.l_setQ, CS.r_setQ, CS.a_setQ, CS.q_setQ, CS.z_setQ, CS.i_setF, CS.l_setF, CS.r_setF, CS.a_setF, CS.q_setF, CS.z_setF, CS.i_new, CS.l_new, CS.r_new, CS.a_new, CS.q_new, CS.z_new, Nat.reduceEqDiff, false_and, true_and, and_false, and_true, if_true, if_false, b2_0, b2_1, b2_nn, n0_or, n1_or, n10, n01, dec1, dec2, ob_ok, oe_l, oe_r, gl_ok, gle_ok, gn_s, gv_ok, gv_none, on_none, onSome,u3, u8, hop.2.1, g1', ov_ok, k1, al_ok]
  · rintro i _ hi ⟨m1, m2, bf, af, g1, g2, rfl, g3, g4, g5, g6⟩
    unfold m_cSt_openKey_B10
    cases m2 with
    | nil =>
      right
      have haf : af = none := g4
      subst haf
      simp only [on_none]
      refine ⟨_, rfl, bf, none, rfl, ?_⟩
      simp only [List.takeWhile_nil, List.append_nil] at g5
      rw [g5]
      exact g3
    | cons t m2 =>
      obtain ⟨rfl, g4⟩ := g4
      have ht := L_mem hA (show t ∈ A.L x by rw [g1]; simp)
      have htj := (b13.1 t ht.1 ht.2.2).1
      obtain ⟨d, d1, d2⟩ := cS_cmpKeyV hA U' hkn ht.1 ht.2.2
      simp (disch := omega) only [gd_ok, cl_nI, nI_s, nI_add, nI_leI, nI_ltI, nI_eq, if_pos, if_neg, q0, q1, q2, q3, q4, q5, q6, q7, q8, q9, q10, CS.i_setI, CS.l_setI, CS.r_setI, CS.a_setI, CS.q_setI, CS.z_setI, CS.i_setL, CS.l_setL, CS.r_setL, CS.a_setL, CS.q_setL, CS.z_setL, CS.i_setR, CS.l_setR, CS.r_setR, CS.a_setR, CS.q_setR, CS.z_setR, CS.i_setA, CS.l_setA, CS.r_setA, CS.a_setA, CS.q_setA, CS.z_setA, CS.i_setQ, CS.l_setQ, CS.r_setQ, CS.a_setQ, CS.q_setQ, CS.z_setQ, CS.i_setF, CS.l_setF, CS.r_setF, CS.a_setF, CS.q_setF, CS.z_setF, CS.i_new, CS.l_new, CS.r_new, CS.a_new, CS.q_new, CS.z_new, Nat.reduceEqDiff, false_and, true_and, and_false, and_true, if_true, if_false, b2_0, b2_1, b2_nn, n0_or, n1_or, n10, n01, dec1, dec2, ob_ok, oe_l, oe_r, gl_ok, gle_ok, gn_s, gv_ok, gv_none, on_none, onSome,u8, u3, u5, u7, s10, hop.2.2.2.2.2.1, hop.2.2.2.2.2.2.1, d1]
      simp only [i32_0le]
      by_cases c : 0 ≤ d.toInt
      · rw [if_pos c]
        right
        refine ⟨_, rfl, bf, some (A.sj t), rfl, ?_⟩
        rw [List.takeWhile_cons_of_neg (by simp; omega), List.append_nil] at g5
        rw [g5]
        exact g3
      · rw [if_neg c]
        left
        refine ⟨_, rfl, by rw [g1]; simp; omega, m1 ++ [t], m2, some (A.sj t), C.r 7 2 (A.sj t), by rw [g1]; simp, by simp; omega, rfl, CBF.step, g4, ?_, ?_⟩
        · rw [g5, List.takeWhile_cons_of_pos (by simp; omega)]; simp
        · rw [g6, List.dropWhile_cons_of_pos (by simp; omega)]
/-- where an element goes: e0 its place and what stands before, rest what stands behind -/
theorem cS_openElement (hA : AI A) (hr : r < 8) (hx : ∀ m, x = some m → m < A.n) {e0 rest l1 l2 : List Nat} (hL : A.L x = e0 ++ rest) (he0 : match par with
      | none => e0 = []
      | some p => ∃ a, e0 = a ++ [p])
    (h1 : l1 = e0 ++ rest.takeWhile (fun t => decide (8 * (A.tp r + 1) + r < A.id t))) (h2 : l2 = rest.dropWhile (fun t => decide (8 * (A.tp r + 1) + r < A.id t)))
    (U : RCu N C A (A.mk r x act num 1 par A.n [] [] pl (l1 ++ A.n :: l2) [A.n])) :
    ∃ r', m_cSt_openElement N 0 C (A.n + 1) (par.map (· + 1)) = some ((Nup N 7, ((C.setI 3 5 (A.n + 1) (nI 1)).new 7 (N 7) 0).setP r'), 1, 3) ∧ RC0 (Nup N 7) (((C.setI 3 5 (A.n + 1) (nI 1)).new 7 (N 7) 0).setP r') (A.mk r x act num 1 par A.n [] [] pl (l1 ++ A.n :: l2) [A.n]) ∧ (∀ k g j, k ≠ 3 → k ≠ 7 → r' k g j = C.r k g j) := by
  obtain ⟨⟨u0, u1, u2, u3, u4, u5, u6, u7, u8, u9, u10, u11, u12, u13, u14, u15, u16, u17, u18⟩, b2, b3, b4, b5, b6, b7, b8, b9, b10, b11, b12, b13, b14⟩ := U
  obtain ⟨s1, s2, s3, s4, s5, s6, s7, s8, s9, s10, s11, s12, s13, s14, s15, s16, s17, s18, s19, s20, s21⟩ := b3
  have b3' : RC_st C := ⟨s1, s2, s3, s4, s5, s6, s7, s8, s9, s10, s11, s12, s13, s14, s15, s16, s17, s18, s19, s20, s21⟩
  have hLL : A.L x = l1 ++ l2 := by rw [h1, h2, List.append_assoc, List.takeWhile_append_dropWhile, hL]
  have hox := ox_lt hx
  have hln := L_len hA (x := x)
  have hnn := hA.1.1
  have htp := (hA.2.2.2.1.1 r)
  have f36 : (cFT.getD 3 [])[6]? = some (3 + 2) := by decide
  have hpm : ∀ p, par = some p → p ∈ A.L x := by
    intro p hp
    rw [hp] at he0
    obtain ⟨a, ha⟩ := he0
    rw [hL, ha]
    simp
  let D : CS := (C.setI 3 5 (A.n + 1) (nI 1)).setR 3 6 (A.n + 1) (par.map (· + 1))
  have hDold : ∀ k g j, ¬ (k = 3 ∧ g = 6 ∧ j = A.n + 1) → D.r k g j = C.r k g j := fun k g j h => if_neg h
  -- the state with inserts and behind written
  have V : RCv N D A (A.mk r x act num 1 par A.n [] [] pl (l1 ++ A.n :: l2) [A.n]) 1 (par.map (· + 1)) := by
    refine ⟨⟨u0, u1, u2, u3, u4, u5, u6, u7, u8, u9, u10, u11, u12, u13, u14, u15, u16, u17, u18⟩, ?_, b3', b4, b5, b6, b7, b8, b9, b10, b11, ?_, b13, ?_, ?_, b14.2.2⟩
    · refine WF_setR (C := C.setI 3 5 (A.n + 1) (nI 1)) b2 ?_
      intro t y e1 e2
      rw [f36] at e1
      have : t = 3 := by have := Option.some.inj e1; omega
      subst this
      cases hp : par with
      | none => rw [hp] at e2; cases e2
      | some p =>
        rw [hp] at e2
        cases e2
        have := (L_mem hA (hpm p hp)).1
        show p + 1 < N 3
        omega
    · intro o ho
      obtain ⟨c1, c2, c3⟩ := b12 o ho
      refine ⟨?_, ?_, c3⟩
      · show (C.setI 3 5 (A.n + 1) (nI 1)).i 3 5 (o + 1) = _
        rw [CS.i_setI, if_neg (by omega)]
        exact c1
      · rw [hDold 3 6 _ (by omega)]
        exact c2
    · show (C.setI 3 5 (A.n + 1) (nI 1)).i 3 5 (A.n + 1) = _
      rw [CS.i_setI, if_pos ⟨rfl, rfl, rfl⟩]
    · show (if 3 = 3 ∧ 6 = 6 ∧ A.n + 1 = A.n + 1 then _ else _) = _
      rw [if_pos ⟨rfl, rfl, rfl⟩]
  have hop := b11 A.n (by rw [mk_n]; omega)
  rw [mk_id, mk_obj, if_pos rfl, if_pos rfl] at hop
  have hch := b13.2.2 x hx
  -- the walk
  have walk : ∀ bf af, CBF C A x e0 bf af → chn (C.r 7 2) af (rest.map A.sj) → ∃ bf' af', m_cSt_openElement_L43 N 0 D (some (A.n + 1)) bf af = some ((N, D, some (A.n + 1), bf', af'), 0, 0) ∧ CBF C A x l1 bf' af' := by
    intro bf af hcb hca
    have := lpA_run0 (body := fun c : (Nat → Nat) × CS × Option Nat × Option Nat × Option Nat => m_cSt_openElement_B43 c.1 0 c.2.1 c.2.2.1 c.2.2.2.1 c.2.2.2.2)
      (fun i c => ∃ m1 m2 bf af, rest = m1 ++ m2 ∧ m1.length = i ∧ c = (N, D, some (A.n + 1), bf, af) ∧ CBF C A x (e0 ++ m1) bf af ∧ chn (C.r 7 2) af (m2.map A.sj) ∧ l1 = e0 ++ m1 ++ m2.takeWhile (fun t => decide (8 * (A.tp r + 1) + r < A.id t)))
      (fun e => ∃ bf af, e = (N, D, some (A.n + 1), bf, af) ∧ CBF C A x l1 bf af) rest.length ?_ FU (N, D, some (A.n + 1), bf, af) (by
        have : rest.length ≤ (A.L x).length := by rw [hL]; simp
        unfold FU; omega) ⟨[], rest, bf, af, rfl, rfl, rfl, by simpa using hcb, hca, by simpa using h1⟩
    · obtain ⟨e, g1, bf', af', rfl, g2⟩ := this
      refine ⟨bf', af', ?_, g2⟩
      unfold m_cSt_openElement_L43
      exact g1
    · rintro i _ hi ⟨m1, m2, bf, af, g1, g2, rfl, g3, g4, g5⟩
      unfold m_cSt_openElement_B43
      cases m2 with
      | nil =>
        right
        have haf : af = none := g4
        subst haf
        simp only [on_none]
        refine ⟨_, rfl, bf, none, rfl, ?_⟩
        simp only [List.takeWhile_nil, List.append_nil] at g5
        rw [g5]
        exact g3
      | cons t m2 =>
        obtain ⟨rfl, g4⟩ := g4
        have ht := L_mem hA (show t ∈ A.L x by rw [hL, g1]; simp)
        have htj := (b13.1 t ht.1 ht.2.2)
        have htid := (b11 t (by rw [mk_n]; omega)).1
        rw [mk_id, if_neg (by omega)] at htid
        have hid := id_lt hA ht.1
        have d1 : D.r 7 0 (A.sj t) = some (t + 1) := htj.2.1
        have d2 : D.i 3 0 (t + 1) = nI (A.id t) := htid
        have d3 : D.i 3 0 (A.n + 1) = nI (8 * (A.tp r + 1) + r) := hop.1
        have d4 : D.r 7 2 (A.sj t) = C.r 7 2 (A.sj t) := rfl
        simp (disch := omega) only [gd_ok, cl_nI, nI_s, nI_add, nI_leI, nI_ltI, nI_eq, if_pos, if_neg, q0, q1, q2, q3, q4, q5, q6, q7, q8, q9, q10, CS.i_setI, CS.l_setI, CS.r_setI, CS.a_setI, CS.q_setI, CS.z_setI, CS.i_setL, CS.l_setL, CS.r_setL, CS.a_setL, CS.q_setL, CS.z_setL, CS.i_setR, CS.l_setR, CS.r_setR, CS.a_setR, CS.q_setR, CS.z_setR, CS.i_setA, CS.l_setA, CS.r_setA, CS.a_setA, CS.q_setA, CS.z_setA, CS.i_setQ, CS.l_setQ, CS.r_setQ, CS.a_setQ, CS.q_setQ, CS.z_setQ, CS.i_setF, CS.l_setF, CS.r_setF, CS.a_setF, CS.q_setF, CS.z_setF, CS.i_new, CS.l_new, CS.r_new, CS.a_new, CS.q_new, CS.z_new, Nat.reduceEqDiff, false_and, true_and, and_false, and_true, if_true, if_false, b2_0, b2_1, b2_nn, n0_or, n1_or, n10, n01, dec1, dec2, ob_ok, oe_l, oe_r, gl_ok, gle_ok, gn_s, gv_ok, gv_none, on_none, onSome,u3, u7, d1, d2, d3, d4]
        by_cases c : A.id t ≤ 8 * (A.tp r + 1) + r
        · rw [if_pos c]
          right
          refine ⟨_, rfl, bf, some (A.sj t), rfl, ?_⟩
          rw [List.takeWhile_cons_of_neg (by simp; omega), List.append_nil] at g5
          rw [g5]
          exact g3
        · rw [if_neg c]
          left
          refine ⟨_, rfl, by rw [g1]; simp; omega, m1 ++ [t], m2, some (A.sj t), C.r 7 2 (A.sj t), by rw [g1]; simp, by simp; omega, rfl, ?_, g4, ?_⟩
          · rw [← List.append_assoc]; exact CBF.step
          · rw [g5, List.takeWhile_cons_of_pos (by simp; omega)]; simp
  have fin : ∀ bf af, CBF C A x l1 bf af → ∃ r', m_cSt_openBetween N 0 D (A.n + 1) bf af = some ((Nup N 7, ((C.setI 3 5 (A.n + 1) (nI 1)).new 7 (N 7) 0).setP r'), 1, 3) ∧ RC0 (Nup N 7) (((C.setI 3 5 (A.n + 1) (nI 1)).new 7 (N 7) 0).setP r') (A.mk r x act num 1 par A.n [] [] pl (l1 ++ A.n :: l2) [A.n]) ∧ (∀ k g j, k ≠ 3 → k ≠ 7 → r' k g j = C.r k g j) := by
    intro bf af hcb
    obtain ⟨r', k1, k2, k3⟩ := cS_openBetween hA hr hLL hx V hcb
    exact ⟨r', k1, k2, fun k g j e1 e2 => (k3 k g j e1 e2).trans (hDold k g j (by omega))⟩
  cases hp : par with
  | none =>
    rw [hp] at he0
    have hq : e0 = [] := he0
    rw [hq, List.nil_append] at hL
    obtain ⟨bf', af', w1, w2⟩ := walk none (C.r 3 13 (ox x)) (Or.inl ⟨rfl, hq, rfl⟩) (by rw [← hL]; exact hch)
    obtain ⟨r', k1, k2, k3⟩ := fin bf' af' w2
    refine ⟨r', ?_, by rw [hp] at k2; exact k2, k3⟩
    have d5 : D.r 3 1 (A.n + 1) = some (ox x) := hop.2.1
    have d6 : D.r 3 13 (ox x) = C.r 3 13 (ox x) := rfl
    have hDe : (C.setI 3 5 (A.n + 1) (nI 1)).setR 3 6 (A.n + 1) none = D := by simp only [D, hp]; rfl
    unfold m_cSt_openElement m_cSt_openElement_J0 m_cSt_openElement_J22 m_cSt_openElement_J41 m_cSt_openElement_J76
    simp only [Option.map_none]
    simp (disch := omega) only [gd_ok, cl_nI, nI_s, nI_add, nI_leI, nI_ltI, nI_eq, if_pos, if_neg, q0, q1, q2, q3, q4, q5, q6, q7, q8, q9, q10, CS.i_setI, CS.l_setI, CS.r_setI, CS.a_setI, CS.q_setI, CS.z_setI, CS.i_setL, CS.l_setL, CS.r_setL, CS.a_setL, CS.q_setL, CS.z_setL, CS.i_setR, CS.l_setR, CS.r_setR, CS.a_setR, CS.q_setR, CS.z_setR, CS.i_setA, CS.l_setA, CS.r_setA, CS.a_setA, CS.q_setA, CS.z_setA, CS.i_setQ, CS.l_setQ, CS.r_setQ, CS.a_setQ, CS.q_setQ, CS.z_setQ, CS.i_setF, CS.l_setF, CS.r_setF, CS.a_setF, CS.q_setF, CS.z_setF, CS.i_new, CS.l_new, CS.r_new, CS.a_new, CS.q_new, CS.z_new, Nat.reduceEqDiff, false_and, true_and, and_false, and_true, if_true, if_false, b2_0, b2_1, b2_nn, n0_or, n1_or, n10, n01, dec1, dec2, ob_ok, oe_l, oe_r, gl_ok, gle_ok, gn_s, gv_ok, gv_none, on_none, onSome,u3, hDe, d5, d6, w1, ov_ok, u8, k1, al_ok]
  | some p =>
    rw [hp] at he0
    obtain ⟨a, ha⟩ := he0
    have hpL := L_mem hA (hpm p hp)
    have hpj := (b13.1 p hpL.1 hpL.2.2).1
    have hp11 := (b12 p hpL.1).2.2
    rw [hpL.2.2] at hp11
    have hcr : chn (C.r 7 2) (C.r 7 2 (A.sj p)) (rest.map A.sj) := by
      rw [hL, ha] at hch
      have : ∀ (m : List Nat) (h : Option Nat), chn (C.r 7 2) h (m ++ A.sj p :: rest.map A.sj) → chn (C.r 7 2) (C.r 7 2 (A.sj p)) (rest.map A.sj) := by
        intro m
        induction m with
        | nil => intro h h1; exact h1.2
        | cons y m ih => intro h h1; exact ih _ h1.2
      exact this (a.map A.sj) _ (by simpa using hch)
    obtain ⟨bf', af', w1, w2⟩ := walk (some (A.sj p)) (C.r 7 2 (A.sj p)) (Or.inr ⟨a, p, rfl, ha, rfl⟩) hcr
    obtain ⟨r', k1, k2, k3⟩ := fin bf' af' w2
    refine ⟨r', ?_, by rw [hp] at k2; exact k2, k3⟩
    have d7 : D.r 7 2 (A.sj p) = C.r 7 2 (A.sj p) := rfl
    have hDe : (C.setI 3 5 (A.n + 1) (nI 1)).setR 3 6 (A.n + 1) (some (p + 1)) = D := by simp only [D, hp]; rfl
    unfold m_cSt_openElement m_cSt_openElement_J0 m_cSt_openElement_J22 m_cSt_openElement_J41 m_cSt_openElement_J76
    simp only [Option.map_some]
    simp (disch := omega) only [gd_ok, cl_nI, nI_s, nI_add, nI_leI, nI_ltI, nI_eq, if_pos, if_neg, q0, q1, q2, q3, q4, q5, q6, q7, q8, q9, q10, CS.i_setI, CS.l_setI, CS.r_setI, CS.a_setI, CS.q_setI, CS.z_setI, CS.i_setL, CS.l_setL, CS.r_setL, CS.a_setL, CS.q_setL, CS.z_setL, CS.i_setR, CS.l_setR, CS.r_setR, CS.a_setR, CS.q_setR, CS.z_setR, CS.i_setA, CS.l_setA, CS.r_setA, CS.a_setA, CS.q_setA, CS.z_setA, CS.i_setQ, CS.l_setQ, CS.r_setQ, CS.a_setQ, CS.q_setQ, CS.z_setQ, CS.i_setF, CS.l_setF, CS.r_setF, CS.a_setF, CS.q_setF, CS.z_setF, CS.i_new, CS.l_new, CS.r_new, CS.a_new, CS.q_new, CS.z_new, Nat.reduceEqDiff, false_and, true_and, and_false, and_true, if_true, if_false, b2_0, b2_1, b2_nn, n0_or, n1_or, n10, n01, dec1, dec2, ob_ok, oe_l, oe_r, gl_ok, gle_ok, gn_s, gv_ok, gv_none, on_none, onSome,u3, u7, hp11, hDe, d7, w1, ov_ok, u8, k1, al_ok]
end OPK
