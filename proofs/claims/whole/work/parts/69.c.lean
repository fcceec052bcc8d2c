/-! THE CLASS: PRED, key and string of the new op. -/
section UU
variable {N : Nat → Nat} {C : CS} {A : AS} {r rd : Nat} {x : Option Nat} {act : Nat} {num : Int64} {ins : Nat} {par : Option Nat} {s : Nat} {key pre : List Nat} {pl : Nat} {Lx Os : List Nat}
/-- PRED of the new op: none -/
theorem RCu.noPre (U : RCu N C A (A.mk r x act num ins par s key [] pl Lx Os)) : RCu N (C.setR 3 7 (A.n + 1) none) A (A.mk r x act num ins par s key [] pl Lx Os) := by
  obtain ⟨b1, b2, b3, b4, b5, b6, b7, b8, b9, b10, b11, b12, b13, b14⟩ := U
  refine ⟨b1, WF_setR b2 (fun t y _ h => by cases h), b3, b4, b5, ?_, b7, b8, b9, b10, b11, b12, b13, b14⟩
  intro o ho
  have h1 := b6 o ho
  rw [mk_pre] at h1 ⊢
  by_cases e : o = A.n
  · subst e
    simp only [if_true]
    rw [CS.r_setR, if_pos ⟨rfl, rfl, rfl⟩]
  · rw [if_neg e] at h1 ⊢
    cases hp : A.pre o with
    | nil =>
      rw [hp] at h1
      show (C.setR 3 7 (A.n + 1) none).r 3 7 (o + 1) = none
      rw [CS.r_setR, if_neg (by omega)]
      exact h1
    | cons a l =>
      rw [hp] at h1
      obtain ⟨j, c1, c2, c3, c4, c5⟩ := h1
      exact ⟨j, c1, c2, by rw [CS.r_setR, if_neg (by omega)]; exact c3, c4, c5⟩
/-- PRED of the new op: an array -/
theorem RCu.somePre {g : Nat → Option Nat} {l : List Nat} (hl : l ≠ []) (hln : ∀ c, c ∈ l → c < A.n) (hg : ∀ k (hk : k < l.length), g k = some (l[k] + 1)) (hg2 : ∀ k, l.length ≤ k → g k = none)
    (U : RCu N C A (A.mk r x act num ins par s key [] pl Lx Os)) : RCu (Nup N 15) (((C.new 15 (N 15) l.length).setG 15 (N 15) g).setR 3 7 (A.n + 1) (some (N 15))) A (A.mk r x act num ins par s key l pl Lx Os) := by
  obtain ⟨⟨u0, u1, u2, u3, u4, u5, u6, u7, u8, u9, u10, u11, u12, u13, u14, u15, u16, u17, u18⟩, b2, b3, b4, b5, b6, b7, b8, b9, b10, b11, b12, b13, b14⟩ := U
  have hN15 : Nup N 15 15 = N 15 + 1 := if_pos rfl
  have hNk : ∀ k, k ≠ 15 → Nup N 15 k = N k := fun k hk => if_neg hk
  have h0 : ¬ (0 : Nat) = N 15 := by omega
  have h1 : ¬ (1 : Nat) = N 15 := by omega
  refine ⟨?_, ?_, b3, ?_, b5, ?_, ?_, b8, b9, b10, b11, b12, b13, b14⟩
  · rw [hNk 0 (by decide), hN15, hNk 1 (by decide), hNk 2 (by decide), hNk 3 (by decide), hNk 4 (by decide), hNk 5 (by decide), hNk 6 (by decide), hNk 7 (by decide), hNk 8 (by decide), hNk 9 (by decide), hNk 10 (by decide), hNk 11 (by decide), hNk 12 (by decide), hNk 13 (by decide), hNk 14 (by decide), hNk 16 (by decide), hNk 17 (by decide), hNk 18 (by decide)]
    exact ⟨u0, u1, u2, u3, u4, u5, u6, u7, u8, u9, u10, u11, u12, u13, u14, by omega, u16, u17, u18⟩
  · refine WF_setR ?_ ?_
    · have w := WF_new b2 (k := 15) (n := l.length)
      refine ⟨w.1, ?_⟩
      intro k1 j1 p1 y e1 e2 e3 e4
      by_cases e : k1 = 15 ∧ j1 = N 15
      · have e5 : ((C.new 15 (N 15) l.length).setG 15 (N 15) g).q k1 j1 p1 = g p1 := if_pos e
        rw [e5] at e4
        rcases Nat.lt_or_ge p1 l.length with h | h
        · rw [hg p1 h] at e4
          cases e4
          have := hln _ (List.getElem_mem h)
          rw [e.1]
          show _ < Nup N 15 3
          rw [hNk 3 (by decide), u3]
          omega
        · rw [hg2 p1 h] at e4
          cases e4
      · have e5 : ((C.new 15 (N 15) l.length).setG 15 (N 15) g).q k1 j1 p1 = (C.new 15 (N 15) l.length).q k1 j1 p1 := if_neg e
        rw [e5] at e4
        exact w.2 k1 j1 p1 y e1 e2 e3 e4
    · intro t y e1 e2
      cases e2
      have : t = 15 := by
        have e : (cFT.getD 3 [])[7]? = some (15 + 2) := by decide
        rw [e] at e1
        have := Option.some.inj e1
        omega
      subst this
      rw [hN15]
      omega
  · have hz := b4
    unfold RC_sz at hz ⊢
    have hzz : ∀ k j, ¬ (k = 15 ∧ j = N 15) → (((C.new 15 (N 15) l.length).setG 15 (N 15) g).setR 3 7 (A.n + 1) (some (N 15))).z k j = C.z k j := fun k j h => if_neg h
    rw [hzz 15 0 (by omega), hzz 15 1 (by omega)]
    obtain ⟨z1, z2, z3, z4, z5, z6, z7, z8, z9, z10, z11, z12, z13, z14, z15, z16⟩ := hz
    exact ⟨z1, z2, z3, z4, z5, z6, z7, z8, z9, z10, z11, z12, z13, z14, z15, z16⟩
  · intro o ho
    have h2 := b6 o ho
    rw [mk_n] at ho
    rw [mk_pre] at h2 ⊢
    by_cases e : o = A.n
    · subst e
      rw [if_pos rfl]
      cases hl' : l with
      | nil => exact absurd hl' hl
      | cons a l' =>
        rw [hl'] at hg
        refine ⟨N 15, by omega, by rw [hN15]; omega, ?_, ?_, ?_⟩
        · rw [CS.r_setR, if_pos ⟨rfl, rfl, rfl⟩]
        · show (if 15 = 15 ∧ N 15 = N 15 then _ else _) = _
          rw [if_pos ⟨rfl, rfl⟩]
        · intro k hk
          show (if 15 = 15 ∧ N 15 = N 15 then g k else _) = _
          rw [if_pos ⟨rfl, rfl⟩]
          exact hg k hk
    · rw [if_neg e] at h2 ⊢
      cases hp : A.pre o with
      | nil =>
        rw [hp] at h2
        show (((C.new 15 (N 15) l.length).setG 15 (N 15) g).setR 3 7 (A.n + 1) (some (N 15))).r 3 7 (o + 1) = none
        rw [CS.r_setR, if_neg (by omega)]
        exact h2
      | cons a l' =>
        rw [hp] at h2
        obtain ⟨j, c1, c2, c3, c4, c5⟩ := h2
        have hj : ¬ j = N 15 := by omega
        refine ⟨j, c1, by rw [hN15]; omega, ?_, ?_, ?_⟩
        · rw [CS.r_setR, if_neg (by omega)]; exact c3
        · show (if 15 = 15 ∧ j = N 15 then _ else _) = _
          rw [if_neg (fun h => hj h.2)]
          exact c4
        · intro k hk
          show (if 15 = 15 ∧ j = N 15 then _ else (if 15 = 15 ∧ j = N 15 then _ else _)) = _
          rw [if_neg (fun h => hj h.2), if_neg (fun h => hj h.2)]
          exact c5 k hk
  · refine ⟨?_, ?_⟩
    · intro o ho hg'
      show (if 15 = 15 ∧ 0 = N 15 then _ else (if 15 = 15 ∧ 0 = N 15 then _ else C.q 15 0 _)) = _
      rw [if_neg (fun h => h0 h.2), if_neg (fun h => h0 h.2)]
      exact b7.1 o ho hg'
    · intro i j hq
      have e : (((C.new 15 (N 15) l.length).setG 15 (N 15) g).setR 3 7 (A.n + 1) (some (N 15))).q 15 0 i = C.q 15 0 i := by
        show (if 15 = 15 ∧ 0 = N 15 then _ else (if 15 = 15 ∧ 0 = N 15 then _ else C.q 15 0 _)) = _
        rw [if_neg (fun h => h0 h.2), if_neg (fun h => h0 h.2)]
      rw [e] at hq
      exact b7.2 i j hq
/-- the key of the new op -/
theorem RCu.withKey {k : List Nat} {f : Nat → Int32} (hA : AI A) (U : RCu N C A (A.mk r x act num ins par s [] pre pl Lx Os)) (hk : ∀ i (h : i < k.length), k[i] < 256 ∧ f (A.kn + i) = sb k[i]) (hf : ∀ q, q < A.kn → f q = C.a 13 0 q) :
    RCu N ((C.row 0 f (nI (A.kn + k.length))).setI 3 9 (A.n + 1) (nI k.length)) A (A.mk r x act num ins par s k pre pl Lx Os) := by
  obtain ⟨b1, b2, b3, b4, b5, b6, b7, b8, b9, b10, b11, b12, b13, b14⟩ := U
  refine ⟨b1, b2, b3, b4, b5, b6, b7, ?_, b9, b10, ?_, b12, b13, b14⟩
  · refine ⟨rfl, ?_⟩
    intro o ho
    have h1 := b8.2 o ho
    rw [mk_ba, mk_key, mk_str, mk_kn, mk_act] at h1 ⊢
    show _ ∧ (∀ i (h : i < (if o = A.n then k else A.key o).length), _ ∧ f _ = _) ∧ (∀ i (h : i < (if o = A.n then [] else A.str o).length), _ ∧ f _ = _) ∧ _
    by_cases e : o = A.n
    · subst e
      simp only [if_true] at h1 ⊢
      refine ⟨by simp, hk, ?_, h1.2.2.2⟩
      intro i hi; simp at hi
    · simp only [e, if_false, List.length_nil, Nat.add_zero] at h1 ⊢
      refine ⟨by omega, ?_, ?_, h1.2.2.2⟩
      · intro i hi
        rw [hf _ (by omega)]
        exact h1.2.1 i hi
      · intro i hi
        rw [hf _ (by omega)]
        exact h1.2.2.1 i hi
  · intro o ho
    have h1 := b11 o ho
    rw [mk_key] at h1 ⊢
    obtain ⟨c1, c2, c3, c4, c5, c6, c7, c8⟩ := h1
    refine ⟨c1, c2, c3, c4, c5, c6, ?_, c8⟩
    rw [CS.i_setI]
    by_cases e : o = A.n
    · subst e; rw [if_pos ⟨rfl, rfl, rfl⟩, if_pos rfl]
    · rw [if_neg (by omega), if_neg e]
      rw [if_neg e] at c7
      exact c7
theorem RCu.nn (U : RCu N C A (A.mk r x act num ins par s key pre pl Lx Os)) : N 0 = A.m ∧ N 1 = 1 ∧ N 2 = 1 ∧ N 3 = A.n + 2 ∧ N 4 = 8 ∧ N 5 = 7 ∧ N 6 = 1 ∧ N 7 = A.ns ∧ N 8 = 1 ∧ N 9 = 500 ∧ N 10 = 1 ∧ N 11 = 1 ∧ N 12 = 10 + A.m ∧ N 13 = 7 ∧ N 14 = 8 ∧ 2 ≤ N 15 ∧ N 16 = 9 + A.m ∧ N 17 = 1 ∧ N 18 = 1 := U.1
theorem RCu.st (U : RCu N C A (A.mk r x act num ins par s key pre pl Lx Os)) : RC_st C := U.2.2.1
theorem cS_keepKey (hA : AI A) (U : RCu N C A (A.mk r x act num ins par s [] pre pl Lx Os)) {j l p : Nat} {k : List Nat} (h2 : RW C j l) (hb : RB C j p k) (hp : p + k.length ≤ l) (hl : A.kn + k.length ≤ 24576) :
    ∃ f, m_cSt_keepKey N 0 C (A.n + 1) j (nI p) (nI k.length) = some ((C.row 0 f (nI (A.kn + k.length))).setI 3 9 (A.n + 1) (nI k.length)) ∧ RCu N ((C.row 0 f (nI (A.kn + k.length))).setI 3 9 (A.n + 1) (nI k.length)) A (A.mk r x act num ins par s k pre pl Lx Os) := by
  obtain ⟨u0, u1, u2, u3, u4, u5, u6, u7, u8, u9, u10, u11, u12, u13, u14, u15, u16, u17, u18⟩ := U.nn
  obtain ⟨s1, s2, s3, s4, s5, s6, s7, s8, s9, s10, s11, s12, s13, s14, s15, s16, s17, s18, s19, s20, s21⟩ := U.st
  have hsz := U.2.2.2.1
  have hkp : C.i 5 1 0 = nI A.kn := U.2.2.2.2.2.2.2.1.1
  have hz : C.z 13 0 = 24576 := hsz.2.2.2.2.2.1
  have hRW : RW C 0 A.kn := ⟨by omega, hsz.2.2.2.2.2.2.2.2.2.2.2.2.2.2.1 0 (by omega), hkp, by rw [hz]; omega, by rw [hz]; decide⟩
  have hj := h2.1
  obtain ⟨f, f1, f2, f3⟩ := cR_writeAll u5 u13 hRW h2 hb hp (by rw [hz]; exact hl)
  refine ⟨f, ?_, U.withKey hA (fun i hi => ⟨(hb i hi).1, f3 i hi⟩) f2⟩
  unfold m_cSt_keepKey m_cSt_keepKey_J0
  simp (disch := omega) only [gd_ok, cl_nI, nI_s, nI_add, nI_leI, nI_ltI, nI_eq, if_pos, if_neg, q0, q1, q2, q3, q4, q5, q6, q7, q8, q9, q10, CS.i_setI, CS.l_setI, CS.r_setI, CS.a_setI, CS.q_setI, CS.z_setI, CS.i_setL, CS.l_setL, CS.r_setL, CS.a_setL, CS.q_setL, CS.z_setL, CS.i_setR, CS.l_setR, CS.r_setR, CS.a_setR, CS.q_setR, CS.z_setR, CS.i_setA, CS.l_setA, CS.r_setA, CS.a_setA, CS.q_setA, CS.z_setA, CS.i_setQ, CS.l_setQ, CS.r_setQ, CS.a_setQ, CS.q_setQ, CS.z_setQ, CS.i_setF, CS.l_setF, CS.r_setF, CS.a_setF, CS.q_setF, CS.z_setF, CS.i_new, CS.l_new, CS.r_new, CS.a_new, CS.q_new, CS.z_new, Nat.reduceEqDiff, false_and, true_and, and_false, and_true, if_true, if_false, b2_0, b2_1, b2_nn, n0_or, n1_or, n10, n01, dec1, dec2, ob_ok, oe_l, oe_r, gl_ok, gle_ok, gn_s, gv_ok, gv_none, on_none, onSome,u8, u5, u3, s10, f1]
/-- the last op gets a string -/
theorem RC_gs {n : Nat} {st : List Nat} {f : Nat → Int32} (G : RC N C A rd) (hn : A.n = n + 1) (h4 : A.act n = 4) (hs : A.str n = []) (hkn : A.ba n + (A.key n).length = A.kn) (hk : ∀ i (h : i < st.length), st[i] < 256 ∧ f (A.kn + i) = sb st[i]) (hf : ∀ q, q < A.kn → f q = C.a 13 0 q) :
    RC N ((C.row 0 f (nI (A.kn + st.length))).setI 3 10 (n + 1) (nI st.length)) (A.gs st) rd := by
  obtain ⟨⟨b1, b2, b3, b4, b5, b6, b7, b8, b9, b10, b11, b12⟩, hsc⟩ := G
  refine ⟨⟨b1, b2, b3, b4, b5, b6, b7, ?_, b9, b10, ?_, b12⟩, hsc⟩
  · refine ⟨rfl, ?_⟩
    intro o ho
    have h1 := b8.2 o ho
    rw [gs_str, gs_kn]
    show A.ba o + (A.key o).length + _ ≤ _ ∧ (∀ i (h : i < (A.key o).length), (A.key o)[i] < 256 ∧ f (A.ba o + i) = sb (A.key o)[i]) ∧ (∀ i (h : i < (if o + 1 = A.n then st else A.str o).length), (if o + 1 = A.n then st else A.str o)[i] < 256 ∧ f (A.ba o + (A.key o).length + i) = sb (if o + 1 = A.n then st else A.str o)[i]) ∧ (A.act o ≠ 4 → _)
    by_cases e : o = n
    · subst e
      simp only [if_pos hn.symm]
      refine ⟨by omega, ?_, ?_, fun h => absurd h4 h⟩
      · intro i hi
        rw [hf _ (by omega)]
        exact h1.2.1 i hi
      · intro i hi
        rw [hkn]
        exact hk i hi
    · have hno : ¬ o + 1 = A.n := by omega
      simp only [if_neg hno]
      refine ⟨by omega, ?_, ?_, h1.2.2.2⟩
      · intro i hi
        rw [hf _ (by omega)]
        exact h1.2.1 i hi
      · intro i hi
        rw [hf _ (by omega)]
        exact h1.2.2.1 i hi
  · intro o ho
    obtain ⟨c1, c2, c3, c4, c5, c6, c7, c8, c9, c10, c11⟩ := b11 o ho
    refine ⟨c1, c2, c3, c4, c5, c6, c7, c8, c9, ?_, c11⟩
    rw [gs_str, CS.i_setI]
    by_cases e : o = n
    · subst e; rw [if_pos ⟨rfl, rfl, rfl⟩, if_pos hn.symm]
    · rw [if_neg (by omega), if_neg (by omega)]
      exact c10
theorem cS_keepString {n : Nat} (G : RC N C A rd) (hn : A.n = n + 1) (h4 : A.act n = 4) (hs : A.str n = []) (hkn : A.ba n + (A.key n).length = A.kn) {j l p : Nat} {st : List Nat} (h2 : RW C j l) (hb : RB C j p st) (hp : p + st.length ≤ l) (hl : A.kn + st.length ≤ 24576) :
    ∃ f, m_cSt_keepString N 0 C (n + 1) j (nI p) (nI st.length) = some ((C.row 0 f (nI (A.kn + st.length))).setI 3 10 (n + 1) (nI st.length)) ∧ RC N ((C.row 0 f (nI (A.kn + st.length))).setI 3 10 (n + 1) (nI st.length)) (A.gs st) rd := by
  obtain ⟨u0, u1, u2, u3, u4, u5, u6, u7, u8, u9, u10, u11, u12, u13, u14, u15, u16, u17, u18⟩ := G.nn
  obtain ⟨s1, s2, s3, s4, s5, s6, s7, s8, s9, s10, s11, s12, s13, s14, s15, s16, s17, s18, s19, s20, s21⟩ := G.st
  have hkp : C.i 5 1 0 = nI A.kn := G.kp.1
  have hz : C.z 13 0 = 24576 := G.sz.2.2.2.2.2.1
  have hRW : RW C 0 A.kn := ⟨by omega, G.sz.2.2.2.2.2.2.2.2.2.2.2.2.2.2.1 0 (by omega), hkp, by rw [hz]; omega, by rw [hz]; decide⟩
  have hj := h2.1
  obtain ⟨f, f1, f2, f3⟩ := cR_writeAll u5 u13 hRW h2 hb hp (by rw [hz]; exact hl)
  refine ⟨f, ?_, RC_gs G hn h4 hs hkn (fun i hi => ⟨(hb i hi).1, f3 i hi⟩) f2⟩
  unfold m_cSt_keepString m_cSt_keepString_J0
  simp (disch := omega) only [gd_ok, cl_nI, nI_s, nI_add, nI_leI, nI_ltI, nI_eq, if_pos, if_neg, q0, q1, q2, q3, q4, q5, q6, q7, q8, q9, q10, CS.i_setI, CS.l_setI, CS.r_setI, CS.a_setI, CS.q_setI, CS.z_setI, CS.i_setL, CS.l_setL, CS.r_setL, CS.a_setL, CS.q_setL, CS.z_setL, CS.i_setR, CS.l_setR, CS.r_setR, CS.a_setR, CS.q_setR, CS.z_setR, CS.i_setA, CS.l_setA, CS.r_setA, CS.a_setA, CS.q_setA, CS.z_setA, CS.i_setQ, CS.l_setQ, CS.r_setQ, CS.a_setQ, CS.q_setQ, CS.z_setQ, CS.i_setF, CS.l_setF, CS.r_setF, CS.a_setF, CS.q_setF, CS.z_setF, CS.i_new, CS.l_new, CS.r_new, CS.a_new, CS.q_new, CS.z_new, Nat.reduceEqDiff, false_and, true_and, and_false, and_true, if_true, if_false, b2_0, b2_1, b2_nn, n0_or, n1_or, n10, n01, dec1, dec2, ob_ok, oe_l, oe_r, gl_ok, gle_ok, gn_s, gv_ok, gv_none, on_none, onSome,u8, u5, u3, s10, f1]
end UU
