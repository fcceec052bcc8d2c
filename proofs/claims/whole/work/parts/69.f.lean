/-! THE CLASS: a new spot. -/
/-- as RCu, the new op's fields inserts and behind being i0 and p0 -/
def RCv (N : Nat → Nat) (C : CS) (A B : AS) (i0 : Nat) (p0 : Option Nat) : Prop := (N 0 = A.m ∧ N 1 = 1 ∧ N 2 = 1 ∧ N 3 = A.n + 2 ∧ N 4 = 8 ∧ N 5 = 7 ∧ N 6 = 1 ∧ N 7 = A.ns ∧ N 8 = 1 ∧ N 9 = 500 ∧ N 10 = 1 ∧ N 11 = 1 ∧ N 12 = 10 + A.m ∧ N 13 = 7 ∧ N 14 = 8 ∧ 2 ≤ N 15 ∧ N 16 = 9 + A.m ∧ N 17 = 1 ∧ N 18 = 1) ∧
  WF N C ∧ RC_st C ∧ RC_sz C A.m ∧ RC_rt C ∧ RC_pr N C B ∧ RC_id C B ∧ RC_kp C B ∧ RC_cg C B ∧ RC_rp C B ∧ RC_opm C B ∧ RC_opl C A ∧ RC_ln C A ∧ (C.i 3 5 (A.n + 1) = nI i0 ∧ C.r 3 6 (A.n + 1) = p0 ∧ C.r 3 13 (A.n + 1) = none)
section OPB
variable {N : Nat → Nat} {C : CS} {A : AS} {r rd : Nat} {x : Option Nat} {act : Nat} {num : Int64} {ins : Nat} {par : Option Nat} {s : Nat} {key pre : List Nat} {pl : Nat} {Lx Os : List Nat}
theorem setP_setP {r' r'' : Nat → Nat → Nat → Option Nat} : (C.setP r').setP r'' = C.setP r'' := rfl
theorem cS_openBetween (hA : AI A) (hr : r < 8) {l1 l2 : List Nat} (hL : A.L x = l1 ++ l2) (hx : ∀ m, x = some m → m < A.n)
    (U : RCv N C A (A.mk r x act num ins par A.n key pre pl (l1 ++ A.n :: l2) [A.n]) ins (par.map (· + 1))) {bf af : Option Nat} (hba : (bf = none ∧ l1 = [] ∧ af = C.r 3 13 (ox x)) ∨ ∃ m b, bf = some (A.sj b) ∧ l1 = m ++ [b] ∧ af = C.r 7 2 (A.sj b)) :
    ∃ r', m_cSt_openBetween N 0 C (A.n + 1) bf af = some ((Nup N 7, (C.new 7 (N 7) 0).setP r'), 1, 3) ∧ RC0 (Nup N 7) ((C.new 7 (N 7) 0).setP r') (A.mk r x act num ins par A.n key pre pl (l1 ++ A.n :: l2) [A.n]) ∧ (∀ k g j, k ≠ 3 → k ≠ 7 → r' k g j = C.r k g j) := by
  obtain ⟨⟨u0, u1, u2, u3, u4, u5, u6, u7, u8, u9, u10, u11, u12, u13, u14, u15, u16, u17, u18⟩, b2, b3, b4, b5, b6, b7, b8, b9, b10, b11, b12, b13, b14⟩ := U
  have hN7 : Nup N 7 7 = N 7 + 1 := if_pos rfl
  have hNk : ∀ k, k ≠ 7 → Nup N 7 k = N k := fun k hk => if_neg hk
  have hox := ox_lt hx
  have f70 : (cFT.getD 7 [])[0]? = some (3 + 2) := by decide
  have f72 : (cFT.getD 7 [])[2]? = some (7 + 2) := by decide
  have f313 : (cFT.getD 3 [])[13]? = some (7 + 2) := by decide
  have hLm : ∀ t, t ∈ l1 ++ l2 → t < A.n ∧ A.obj t = x ∧ A.sp t = t := fun t ht => L_mem hA (by rw [hL]; exact ht)
  have hjlt : ∀ t, t < A.n → A.sp t = t → A.sj t < N 7 := fun t h1 h2 => by rw [u7]; exact (b13.1 t h1 h2).1
  have haf : ∀ y, af = some y → y < N 7 := by
    intro y hy
    rcases hba with ⟨_, _, h⟩ | ⟨m, b, _, h1, h⟩
    · rw [h] at hy
      exact b2.1 3 13 (ox x) 7 y (by omega) (by omega) f313 hy
    · rw [h] at hy
      have hb := hLm b (by rw [h1]; simp)
      exact b2.1 7 2 (A.sj b) 7 y (by omega) (hjlt b hb.1 hb.2.2) f72 hy
  have hgv : ∀ {τ : Type} (k : Option τ), gv af (N 7) k = k := by
    intro τ k
    cases h : af with
    | none => rfl
    | some y => exact gv_ok (haf y h)
  have hobj : C.r 3 1 (A.n + 1) = some (ox x) := by
    have := (b11 A.n (by rw [mk_n]; omega)).2.1
    rw [mk_obj, if_pos rfl] at this
    exact this
  have hnid : C.i 3 0 (A.n + 1) = nI (8 * (A.tp r + 1) + r) := by
    have := (b11 A.n (by rw [mk_n]; omega)).1
    rw [mk_id, if_pos rfl] at this
    exact this
  -- the chain of the spots behind it
  let r3 : Nat → Nat → Nat → Option Nat := fun k g j => if bf = none ∧ k = 3 ∧ g = 13 ∧ j = ox x then some (N 7) else if k = 7 ∧ g = 2 ∧ bf = some j then some (N 7) else if k = 7 ∧ g = 2 ∧ j = N 7 then af else if k = 7 ∧ g = 0 ∧ j = N 7 then some (A.n + 1) else if k = 7 ∧ j = N 7 then none else C.r k g j
  have hbfN : ∀ j, bf = some j → j < N 7 := by
    intro j hj
    rcases hba with ⟨h, _, _⟩ | ⟨m, b, h, h1, _⟩
    · rw [h] at hj; cases hj
    · rw [h] at hj
      cases hj
      have hb := hLm b (by rw [h1]; simp)
      exact hjlt b hb.1 hb.2.2
  have hw1 := WF_new b2 (k := 7) (n := 0)
  have hw2 : WF (Nup N 7) (((C.new 7 (N 7) 0).setR 7 0 (N 7) (some (A.n + 1))).setR 7 2 (N 7) af) := by
    refine WF_setR (WF_setR hw1 ?_) ?_
    · intro t y e1 e2
      rw [f70] at e1
      have : t = 3 := by have := Option.some.inj e1; omega
      subst this
      cases e2
      rw [hNk 3 (by decide)]
      omega
    · intro t y e1 e2
      rw [f72] at e1
      have : t = 7 := by have := Option.some.inj e1; omega
      subst this
      have := haf y e2
      rw [hN7]
      omega
  have hw3 : WF (Nup N 7) ((C.new 7 (N 7) 0).setP r3) := by
    rcases hba with ⟨h, h1, h2⟩ | ⟨m, b, h, h1, h2⟩
    · have e : (C.new 7 (N 7) 0).setP r3 = (((C.new 7 (N 7) 0).setR 7 0 (N 7) (some (A.n + 1))).setR 7 2 (N 7) af).setR 3 13 (ox x) (some (N 7)) := by
        apply CS_ext <;> intros <;> try rfl
        rw [setP_r]
        simp only [r3, h, CS.i_setI, CS.l_setI, CS.r_setI, CS.a_setI, CS.q_setI, CS.z_setI, CS.i_setL, CS.l_setL, CS.r_setL, CS.a_setL, CS.q_setL, CS.z_setL, CS.i_setR, CS.l_setR, CS.r_setR, CS.a_setR, CS.q_setR, CS.z_setR, CS.i_setA, CS.l_setA, CS.r_setA, CS.a_setA, CS.q_setA, CS.z_setA, CS.i_setQ, CS.l_setQ, CS.r_setQ, CS.a_setQ, CS.q_setQ, CS.z_setQ, CS.i_setF, CS.l_setF, CS.r_setF, CS.a_setF, CS.q_setF, CS.z_setF, CS.i_new, CS.l_new, CS.r_new, CS.a_new, CS.q_new, CS.z_new, true_and, reduceCtorEq, and_false, if_false]
      rw [e]
      refine WF_setR hw2 ?_
      intro t y e1 e2
      rw [f313] at e1
      have : t = 7 := by have := Option.some.inj e1; omega
      subst this
      cases e2
      rw [hN7]
      omega
    · have e : (C.new 7 (N 7) 0).setP r3 = (((C.new 7 (N 7) 0).setR 7 0 (N 7) (some (A.n + 1))).setR 7 2 (N 7) af).setR 7 2 (A.sj b) (some (N 7)) := by
        apply CS_ext <;> intros <;> try rfl
        rw [setP_r]
        simp only [r3, h, CS.i_setI, CS.l_setI, CS.r_setI, CS.a_setI, CS.q_setI, CS.z_setI, CS.i_setL, CS.l_setL, CS.r_setL, CS.a_setL, CS.q_setL, CS.z_setL, CS.i_setR, CS.l_setR, CS.r_setR, CS.a_setR, CS.q_setR, CS.z_setR, CS.i_setA, CS.l_setA, CS.r_setA, CS.a_setA, CS.q_setA, CS.z_setA, CS.i_setQ, CS.l_setQ, CS.r_setQ, CS.a_setQ, CS.q_setQ, CS.z_setQ, CS.i_setF, CS.l_setF, CS.r_setF, CS.a_setF, CS.q_setF, CS.z_setF, CS.i_new, CS.l_new, CS.r_new, CS.a_new, CS.q_new, CS.z_new, reduceCtorEq, false_and, if_false, Option.some.injEq]
        rename_i k g j
        by_cases e : k = 7 ∧ g = 2 ∧ j = A.sj b
        · rw [if_pos ⟨e.1, e.2.1, e.2.2.symm⟩, if_pos e]
        · rw [if_neg (fun h => e ⟨h.1, h.2.1, h.2.2.symm⟩), if_neg e]
      rw [e]
      refine WF_setR hw2 ?_
      intro t y e1 e2
      rw [f72] at e1
      have : t = 7 := by have := Option.some.inj e1; omega
      subst this
      cases e2
      rw [hN7]
      omega
  have hnb : ¬ bf = some (N 7) := fun h => by have := hbfN _ h; omega
  have h71 : r3 7 1 (N 7) = none := by simp [r3]
  have htp := (hA.2.2.2.1.1 r)
  have hv2 : 8 * (A.tp r + 1) + r < 40000 := by have := hA.1.1; omega
  obtain ⟨r', k1, k2, k3, k4, k5⟩ := cS_link (N := Nup N 7) (C := (C.new 7 (N 7) 0).setP r3) (f := A.id) (n := A.n) (p := N 7) (v := 8 * (A.tp r + 1) + r) (l := []) hw3 (by rw [hN7]; omega) (by rw [hNk 3 (by decide)]; exact u3) (fun o h => by cases h) hnid hv2 (fun o h => by cases h) List.nodup_nil (by simp) h71
  rw [setP_setP] at k1 k2
  have hfr : ∀ k g j, ¬ (k = 3 ∧ g = 11 ∧ j = A.n + 1) → ¬ (k = 3 ∧ g = 12 ∧ j = A.n + 1) → ¬ (k = 7 ∧ g = 1 ∧ j = N 7) → r' k g j = r3 k g j := by
    intro k g j e1 e2 e3
    exact k5 k g j e1 (by rintro ⟨a, b, c | ⟨o, c, _⟩⟩; exact e2 ⟨a, b, c⟩; cases c) e3
  have h3old : ∀ k g j, ¬ (bf = none ∧ k = 3 ∧ g = 13 ∧ j = ox x) → ¬ (k = 7 ∧ g = 2 ∧ bf = some j) → ¬ (k = 7 ∧ j = N 7) → r3 k g j = C.r k g j := by
    intro k g j e1 e2 e3
    simp only [r3]
    rw [if_neg e1, if_neg e2, if_neg (fun h => e3 ⟨h.1, h.2.2⟩), if_neg (fun h => e3 ⟨h.1, h.2.2⟩), if_neg e3]
  have hout : ∀ k g j, k ≠ 3 → k ≠ 7 → r' k g j = C.r k g j := by
    intro k g j e1 e2
    rw [hfr k g j (by omega) (by omega) (by omega), h3old k g j (by omega) (by omega) (by omega)]
  have hD : ∀ k g j, k ≠ 7 → (C.new 7 (N 7) 0).r k g j = C.r k g j := fun k g j e => if_neg (fun h => e h.1)
  refine ⟨r', ?_, ?_, hout⟩
  · have hwf : wfN N C 7 := WF_wfN b2
    unfold m_cSt_openBetween m_cSt_openBetween_J0 m_cSt_openBetween_J38 m_cSp_init m_cSp_init_J0 nw
    rcases hba with ⟨h, h1, h2⟩ | ⟨m, b, h, h1, h2⟩
    · have e : (((C.new 7 (N 7) 0).setR 7 0 (N 7) (some (A.n + 1))).setR 7 2 (N 7) af).setR 3 13 (ox x) (some (N 7)) = (C.new 7 (N 7) 0).setP r3 := by
        apply CS_ext <;> intros <;> try rfl
        rw [setP_r]
        simp only [r3, h, CS.i_setI, CS.l_setI, CS.r_setI, CS.a_setI, CS.q_setI, CS.z_setI, CS.i_setL, CS.l_setL, CS.r_setL, CS.a_setL, CS.q_setL, CS.z_setL, CS.i_setR, CS.l_setR, CS.r_setR, CS.a_setR, CS.q_setR, CS.z_setR, CS.i_setA, CS.l_setA, CS.r_setA, CS.a_setA, CS.q_setA, CS.z_setA, CS.i_setQ, CS.l_setQ, CS.r_setQ, CS.a_setQ, CS.q_setQ, CS.z_setQ, CS.i_setF, CS.l_setF, CS.r_setF, CS.a_setF, CS.q_setF, CS.z_setF, CS.i_new, CS.l_new, CS.r_new, CS.a_new, CS.q_new, CS.z_new, true_and, reduceCtorEq, and_false, if_false]
      rw [hgv]
      simp (disch := omega) only [gd_ok, cl_nI, nI_s, nI_add, nI_leI, nI_ltI, nI_eq, if_pos, if_neg, q0, q1, q2, q3, q4, q5, q6, q7, q8, q9, q10, CS.i_setI, CS.l_setI, CS.r_setI, CS.a_setI, CS.q_setI, CS.z_setI, CS.i_setL, CS.l_setL, CS.r_setL, CS.a_setL, CS.q_setL, CS.z_setL, CS.i_setR, CS.l_setR, CS.r_setR, CS.a_setR, CS.q_setR, CS.z_setR, CS.i_setA, CS.l_setA, CS.r_setA, CS.a_setA, CS.q_setA, CS.z_setA, CS.i_setQ, CS.l_setQ, CS.r_setQ, CS.a_setQ, CS.q_setQ, CS.z_setQ, CS.i_setF, CS.l_setF, CS.r_setF, CS.a_setF, CS.q_setF, CS.z_setF, CS.i_new, CS.l_new, CS.r_new, CS.a_new, CS.q_new, CS.z_new, Nat.reduceEqDiff, false_and, true_and, and_false, and_true, if_true, if_false, b2_0, b2_1, b2_nn, n0_or, n1_or, n10, n01, dec1, dec2, ob_ok, oe_l, oe_r, gl_ok, gle_ok, gn_s, gv_ok, gv_none, on_none, onSome,h, gW_ok hwf, hNk 3 (by decide), u3, hN7, hobj, e, k1, al_ok]
    · have e : (((C.new 7 (N 7) 0).setR 7 0 (N 7) (some (A.n + 1))).setR 7 2 (N 7) af).setR 7 2 (A.sj b) (some (N 7)) = (C.new 7 (N 7) 0).setP r3 := by
        apply CS_ext <;> intros <;> try rfl
        rw [setP_r]
        simp only [r3, h, CS.i_setI, CS.l_setI, CS.r_setI, CS.a_setI, CS.q_setI, CS.z_setI, CS.i_setL, CS.l_setL, CS.r_setL, CS.a_setL, CS.q_setL, CS.z_setL, CS.i_setR, CS.l_setR, CS.r_setR, CS.a_setR, CS.q_setR, CS.z_setR, CS.i_setA, CS.l_setA, CS.r_setA, CS.a_setA, CS.q_setA, CS.z_setA, CS.i_setQ, CS.l_setQ, CS.r_setQ, CS.a_setQ, CS.q_setQ, CS.z_setQ, CS.i_setF, CS.l_setF, CS.r_setF, CS.a_setF, CS.q_setF, CS.z_setF, CS.i_new, CS.l_new, CS.r_new, CS.a_new, CS.q_new, CS.z_new, reduceCtorEq, false_and, if_false, Option.some.injEq]
        rename_i k g j
        by_cases e : k = 7 ∧ g = 2 ∧ j = A.sj b
        · rw [if_pos e, if_pos ⟨e.1, e.2.1, e.2.2.symm⟩]
        · have e' : ¬ (k = 7 ∧ g = 2 ∧ A.sj b = j) := fun h => e ⟨h.1, h.2.1, h.2.2.symm⟩
          rw [if_neg e, if_neg e']
      have hbj := hbfN _ h
      rw [hgv]
      simp (disch := omega) only [gd_ok, cl_nI, nI_s, nI_add, nI_leI, nI_ltI, nI_eq, if_pos, if_neg, q0, q1, q2, q3, q4, q5, q6, q7, q8, q9, q10, CS.i_setI, CS.l_setI, CS.r_setI, CS.a_setI, CS.q_setI, CS.z_setI, CS.i_setL, CS.l_setL, CS.r_setL, CS.a_setL, CS.q_setL, CS.z_setL, CS.i_setR, CS.l_setR, CS.r_setR, CS.a_setR, CS.q_setR, CS.z_setR, CS.i_setA, CS.l_setA, CS.r_setA, CS.a_setA, CS.q_setA, CS.z_setA, CS.i_setQ, CS.l_setQ, CS.r_setQ, CS.a_setQ, CS.q_setQ, CS.z_setQ, CS.i_setF, CS.l_setF, CS.r_setF, CS.a_setF, CS.q_setF, CS.z_setF, CS.i_new, CS.l_new, CS.r_new, CS.a_new, CS.q_new, CS.z_new, Nat.reduceEqDiff, false_and, true_and, and_false, and_true, if_true, if_false, b2_0, b2_1, b2_nn, n0_or, n1_or, n10, n01, dec1, dec2, ob_ok, oe_l, oe_r, gl_ok, gle_ok, gn_s, gv_ok, gv_none, on_none, onSome,h, gW_ok hwf, hNk 3 (by decide), u3, hN7, e, k1, al_ok]
  · obtain ⟨c1, c2, c3, c4, c5, c6, c7, c8, c9⟩ := RCu_congr (C := C.new 7 (N 7) 0) (A := A) (N := N) (M := Nup N 7) (r' := r') (fun k g j e1 e2 => by rw [hout k g j e1 e2, hD k g j e2]) (fun j => by rw [hfr 3 1 j (by omega) (by omega) (by omega), h3old 3 1 j (by omega) (by omega) (by omega), hD 3 1 j (by omega)]) (fun j => by rw [hfr 3 7 j (by omega) (by omega) (by omega), h3old 3 7 j (by omega) (by omega) (by omega), hD 3 7 j (by omega)]) (hNk 15 (by decide)) ⟨b3, b4, b5, b6, b7, b8, b9, b10, b11⟩
    refine ⟨?_, k2, c1, c2, c3, c4, c5, c6, c7, c8, ?_, ?_⟩
    · unfold RC_N
      rw [hN7, hNk 0 (by decide), hNk 1 (by decide), hNk 2 (by decide), hNk 3 (by decide), hNk 4 (by decide), hNk 5 (by decide), hNk 6 (by decide), hNk 8 (by decide), hNk 9 (by decide), hNk 10 (by decide), hNk 11 (by decide), hNk 12 (by decide), hNk 13 (by decide), hNk 14 (by decide), hNk 15 (by decide), hNk 16 (by decide), hNk 17 (by decide), hNk 18 (by decide), mk_n, mk_m, mk_ns, if_pos rfl]
      exact ⟨u0, u1, u2, u3, u4, u5, u6, by rw [u7], u8, u9, u10, u11, u12, u13, u14, u15, u16, u17, u18⟩
    · intro o ho
      obtain ⟨y1, y2, y3, y4, y5, y6, y7, y8⟩ := c9 o ho
      rw [mk_n] at ho
      have hlk : ((C.new 7 (N 7) 0).setP r').i 3 5 (o + 1) = nI ((A.mk r x act num ins par A.n key pre pl (l1 ++ A.n :: l2) [A.n]).ins o) ∧ ((C.new 7 (N 7) 0).setP r').r 3 6 (o + 1) = ((A.mk r x act num ins par A.n key pre pl (l1 ++ A.n :: l2) [A.n]).par o).map (· + 1) ∧ ((C.new 7 (N 7) 0).setP r').r 3 11 (o + 1) = some ((A.mk r x act num ins par A.n key pre pl (l1 ++ A.n :: l2) [A.n]).sj ((A.mk r x act num ins par A.n key pre pl (l1 ++ A.n :: l2) [A.n]).sp o)) := by
        rw [mk_ins, mk_par, mk_sp, mk_sj, setP_r]
        show C.i 3 5 (o + 1) = _ ∧ _
        by_cases e : o = A.n
        · subst e
          simp only [if_true]
          refine ⟨b14.1, ?_, by rw [k3, u7]⟩
          rw [hfr 3 6 _ (by omega) (by omega) (by omega), h3old 3 6 _ (by omega) (by omega) (by omega)]
          exact b14.2.1
        · have h12 := b12 o (by omega)
          have hspo : ¬ A.sp o = A.n := by have := (((hA.2.2.1.2.2.2.2.2.2.2.2.1 _).2.1 _).mp (sp_L hA (show o < A.n by omega))).1; omega
          simp only [e, hspo, if_false]
          rw [hfr 3 6 _ (by omega) (by omega) (by omega), h3old 3 6 _ (by omega) (by omega) (by omega), hfr 3 11 _ (by omega) (by omega) (by omega), h3old 3 11 _ (by omega) (by omega) (by omega)]
          exact h12
      exact ⟨y1, y2, y3, y4, y5, hlk.1, hlk.2.1, y6, y7, y8, hlk.2.2⟩
    · obtain ⟨m1, m2, m3⟩ := b13
      refine ⟨?_, ?_, ?_⟩
      · intro q hq hqs
        rw [mk_n] at hq
        rw [mk_sp] at hqs
        rw [mk_sj, mk_ns, if_pos rfl, mk_O, setP_r]
        by_cases e : q = A.n
        · subst e
          simp only [if_true]
          refine ⟨by omega, ?_, ?_⟩
          · rw [← u7, hfr 7 0 _ (by omega) (by omega) (by omega)]
            simp only [r3]
            rw [if_neg (by omega), if_neg (by omega), if_neg (by omega), if_pos (by simp)]
          · rw [← u7]
            exact k4
        · rw [if_neg e] at hqs
          rw [if_neg e, if_neg e]
          obtain ⟨d1, d2, d3⟩ := m1 q (by omega) hqs
          have hjn : ¬ A.sj q = N 7 := by omega
          refine ⟨by omega, ?_, ?_⟩
          · rw [hfr 7 0 _ (by omega) (by omega) (by omega), h3old 7 0 _ (by omega) (by omega) (by omega)]
            exact d2
          · rw [hfr 7 1 _ (by omega) (by omega) (by omega), h3old 7 1 _ (by omega) (by omega) (by omega)]
            refine chn_congr ?_ d3
            intro y hy
            rw [List.mem_map] at hy
            obtain ⟨o, ho, rfl⟩ := hy
            have h2 := ((hA.2.2.1.2.2.2.2.2.2.2.2.2 q).2.1 o).mp ho
            rw [hfr 3 12 _ (by omega) (by omega) (by omega), h3old 3 12 _ (by omega) (by omega) (by omega)]
      · intro a b ha hb hsa hsb he
        rw [mk_n] at ha hb
        rw [mk_sp] at hsa hsb
        rw [mk_sj, mk_sj] at he
        by_cases ea : a = A.n
        · by_cases eb : b = A.n
          · rw [ea, eb]
          · rw [if_neg eb] at hsb
            rw [if_pos ea, if_neg eb] at he
            have := (m1 b (by omega) hsb).1
            omega
        · rw [if_neg ea] at hsa
          by_cases eb : b = A.n
          · rw [if_neg ea, if_pos eb] at he
            have := (m1 a (by omega) hsa).1
            omega
          · rw [if_neg eb] at hsb
            rw [if_neg ea, if_neg eb] at he
            exact m2 a b (by omega) (by omega) hsa hsb he
      · intro y hy
        have hyn : ∀ m, y = some m → m < A.n + 1 := hy
        rw [mk_L, setP_r]
        have hsjo : ∀ l : List Nat, (∀ t, t ∈ l → t < A.n) → l.map (A.mk r x act num ins par A.n key pre pl (l1 ++ A.n :: l2) [A.n]).sj = l.map A.sj := by
          intro l hl
          apply List.map_congr_left
          intro q hq
          rw [mk_sj, if_neg (by have := hl q hq; omega)]
        have r72 : ∀ j, ¬ bf = some j → ¬ j = N 7 → r' 7 2 j = C.r 7 2 j := by
          intro j e1 e2
          rw [hfr 7 2 _ (by omega) (by omega) (by omega), h3old 7 2 _ (by omega) (fun h => e1 h.2.2) (fun h => e2 h.2)]
        by_cases ey : y = x
        · subst ey
          rw [if_pos rfl]
          have hchx := m3 y hx
          have hmap : (l1 ++ A.n :: l2).map (A.mk r y act num ins par A.n key pre pl (l1 ++ A.n :: l2) [A.n]).sj = l1.map A.sj ++ N 7 :: l2.map A.sj := by
            rw [List.map_append, List.map_cons, hsjo l1 (fun q hq => (hLm q (by simp [hq])).1), hsjo l2 (fun q hq => (hLm q (by simp [hq])).1), mk_sj, if_pos rfl, u7]
          rw [hmap]
          rw [hL, List.map_append] at hchx
          have hnotin : N 7 ∉ l1.map A.sj ++ l2.map A.sj := by
            intro h
            rw [← List.map_append, List.mem_map] at h
            obtain ⟨q, h1, h2⟩ := h
            have h3 := hLm q h1
            have := hjlt q h3.1 h3.2.2
            omega
          have hndj : (l1.map A.sj ++ l2.map A.sj).Nodup := by
            rw [← List.map_append, ← hL]
            unfold List.Nodup
            rw [List.pairwise_map]
            refine List.Pairwise.imp_of_mem ?_ (hA.2.2.1.2.2.2.2.2.2.2.2.1 y).1
            intro a b ha hb hab he
            have h1 := L_mem hA ha
            have h2 := L_mem hA hb
            exact hab (m2 a b h1.1 h2.1 h1.2.2 h2.2.2 he)
          have r72J : r' 7 2 (N 7) = af := by
            rw [hfr 7 2 _ (by omega) (by omega) (by omega)]
            simp only [r3]
            rw [if_neg (by omega), if_neg (fun h => hnb h.2.2), if_pos (by simp)]
          rcases hba with ⟨h, h1, h2⟩ | ⟨m, b, h, h1, h2⟩
          · subst h1
            simp only [List.map_nil, List.nil_append] at hchx hnotin ⊢
            have r313 : r' 3 13 (ox y) = some (N 7) := by
              rw [hfr 3 13 _ (by omega) (by omega) (by omega)]
              simp only [r3]
              rw [if_pos (by simp [h])]
            rw [r313]
            refine ⟨rfl, ?_⟩
            rw [r72J, h2]
            refine chn_congr ?_ hchx
            intro j hj
            exact (r72 j (by rw [h]; simp) (fun e => hnotin (e ▸ hj))).symm
          · subst h1
            have r313 : r' 3 13 (ox y) = C.r 3 13 (ox y) := by
              rw [hfr 3 13 _ (by omega) (by omega) (by omega), h3old 3 13 _ (by rw [h]; simp) (by omega) (by omega)]
            rw [r313]
            have hb := hLm b (by simp)
            simp only [List.map_append, List.map_cons, List.map_nil, List.append_assoc, List.cons_append, List.nil_append] at hchx hnotin hndj ⊢
            have h5 := chn_after (a := N 7) (b := A.sj b) hchx hnotin hndj
            refine chn_congr ?_ h5
            intro j hj
            unfold updO
            by_cases e1 : j = A.sj b
            · rw [if_pos e1, e1, hfr 7 2 _ (by omega) (by omega) (by omega)]
              simp only [r3]
              rw [if_neg (by omega), if_pos (by simp [h])]
            · rw [if_neg e1]
              by_cases e2 : j = N 7
              · rw [if_pos e2, e2, r72J, h2]
              · rw [if_neg e2]
                exact (r72 j (by rw [h]; intro e3; cases e3; exact e1 rfl) e2).symm
        · rw [if_neg ey]
          have h313 : r' 3 13 (ox y) = C.r 3 13 (ox y) := by
            have hne : ¬ ox y = ox x := by
              intro e
              apply ey
              cases y with
              | none => cases x with
                | none => rfl
                | some m => simp [ox] at e
              | some m' => cases x with
                | none => simp [ox] at e
                | some m => simp [ox] at e; rw [e]
            rw [hfr 3 13 _ (by omega) (by omega) (by omega), h3old 3 13 _ (by omega) (by omega) (by omega)]
          rw [h313]
          by_cases e : y = some A.n
          · subst e
            have : A.L (some A.n) = [] := by
              cases hl : A.L (some A.n) with
              | nil => rfl
              | cons q l =>
                have h5 := L_mem hA (show q ∈ A.L (some A.n) by rw [hl]; simp)
                have := (hA.2.2.1.2.2.2.1 q A.n h5.1 h5.2.1).1
                omega
            rw [this]
            exact b14.2.2
          · have hy' : ∀ m, y = some m → m < A.n := by
              intro m hm
              have h1 := hyn m hm
              have h2 : m ≠ A.n := by rintro rfl; exact e hm
              omega
            rw [hsjo _ (fun q hq => (L_mem hA hq).1)]
            refine chn_congr ?_ (m3 y hy')
            intro j hj
            rw [List.mem_map] at hj
            obtain ⟨q, hq, rfl⟩ := hj
            have h1 := L_mem hA hq
            refine (r72 _ ?_ (by have := hjlt q h1.1 h1.2.2; omega)).symm
            intro h2
            rcases hba with ⟨h, _, _⟩ | ⟨m, b, h, h3, _⟩
            · rw [h] at h2; cases h2
            · rw [h] at h2
              have h4 := Option.some.inj h2
              have hb := hLm b (by rw [h3]; simp)
              have := m2 b q hb.1 h1.1 hb.2.2 h1.2.2 h4
              subst this
              exact ey (by rw [← h1.2.1, hb.2.1])
end OPB
