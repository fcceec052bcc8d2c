/-! HEADS; THE CALL count. -/
def AS.headB (A : AS) (r d : Nat) : Bool := A.hasB r d && !(List.range A.m).any (fun e => A.hasB r e && A.dp e d)
theorem headB_iff {A : AS} {r d : Nat} : A.headB r d = true ↔ A.head r d := by
  unfold AS.headB AS.head
  rw [Bool.and_eq_true, hasB_iff]
  simp only [Bool.not_eq_true', List.any_eq_false, List.mem_range, Bool.and_eq_true, not_and, hasB_iff, Bool.not_eq_true]
  constructor
  · rintro ⟨h1, h2⟩
    exact ⟨h1, fun e he => h2 e he.1 he⟩
  · rintro ⟨h1, h2⟩
    exact ⟨h1, fun e _ he => h2 e he⟩
section CCO
variable {S S' : MS} {N : Nat → Nat} {C C' : CS} {A : AS} {r rd : Nat} {bi bf bs bo : List Nat} {ji jf js a : Nat}
theorem rs_dp (hR : RS S A) (hA : AI A) : ∃ da dm : Nat → Nat, rDs S da dm A.m ∧ ∀ d c, d < A.m → c < 1000 → rDp S da dm d c = A.dp d c := by
  obtain ⟨t, da, dl, h1, h2, h3⟩ := hR.2.2.2.2.2.2.1
  have hm := hA.1.2.1
  refine ⟨da, fun c => (dl c).length, ?_, ?_⟩
  · intro d hd
    obtain ⟨a1, a2, a3, _⟩ := h3 d hd
    exact ⟨a1, a2, by show da d + (dl d).length ≤ 10000; omega⟩
  · intro d c hd hc
    obtain ⟨a1, a2, a3, a4, a5, a6⟩ := h3 d hd
    unfold rDp
    cases hf : firstTo (fun k => decide (S.a 33 (da d + k) = nI c)) (dl d).length with
    | none =>
      have h := firstTo_none hf
      cases hdp : A.dp d c with
      | false => rfl
      | true =>
        obtain ⟨k, hk, e⟩ := List.mem_iff_getElem.mp ((a5 c).mpr hdp)
        have := h k hk
        rw [a6 k hk, e] at this
        simp at this
    | some k =>
      obtain ⟨h1, h2, _⟩ := firstTo_some hf
      rw [a6 k h1, decide_eq_true_eq] at h2
      have hdp := (a5 _).mp (List.getElem_mem h1)
      have hlt := (hA.2.1.2.2.2.2.2.2.1 d _ hd hdp).1
      rw [nI_eq (by omega) (by omega)] at h2
      rw [h2] at hdp
      rw [hdp]
      rfl
theorem rHd_A (hR : RS S A) (hA : AI A) (hr : r < 8) {da dm : Nat → Nat} (hdp : ∀ d c, d < A.m → c < 1000 → rDp S da dm d c = A.dp d c) {c : Nat} (hc : c < 1000) : rHd S da dm A.m r c = A.headB r c := by
  have hm := hA.1.2.1
  have hh : ∀ d, d < 1000 → (!decide (S.a (101 + r) d = 0)) = A.hasB r d := by
    intro d hd
    rw [((hR.2.2.2.2.2.2.2 r hr).2 d hd).1]
    cases A.hasB r d <;> rfl
  unfold rHd AS.headB
  rw [hh c hc]
  congr 1
  cases hf : firstTo (fun d => (!decide (S.a (101 + r) d = 0)) && rDp S da dm d c) A.m with
  | none =>
    have h := firstTo_none hf
    show true = _
    symm
    rw [Bool.not_eq_true', List.any_eq_false]
    intro d hd
    rw [List.mem_range] at hd
    have := h d hd
    rw [hh d (by omega), hdp d c hd hc] at this
    rw [this]
    decide
  | some d =>
    obtain ⟨h1, h2, _⟩ := firstTo_some hf
    rw [hh d (by omega), hdp d c h1 hc] at h2
    show false = _
    symm
    rw [Bool.not_eq_false', List.any_eq_true]
    exact ⟨d, List.mem_range.mpr h1, h2⟩
theorem pS_isHead (hR : RS S A) (hA : AI A) (hr : r < 8) {c : Nat} (hc : c < 1000) : m_risHead S (nI r) (nI c) = some (S, b2 (A.headB r c)) := by
  obtain ⟨da, dm, h1, h2⟩ := rs_dp hR hA
  rw [pr_isHead hr hc hR.1.2.1 hA.1.2.1 h1, rHd_A hR hA hr h2 hc]
theorem pS_open (hR : RS S A) (hA : AI A) (hr : r < 8) : m_ropen S (nI r) = some (S, nI (A.on r)) := by
  have hn := hA.1.1
  have hm := hA.1.2.1
  rw [pr_open hR.1.1 hn, ← cnt_open hA hr]
  congr 3
  refine cntTo_congr (fun o ho => ?_)
  have hop := hR.2.1 o ho
  have hcl : ∀ c, A.chg o = some c → c < 1000 := fun c hc => by have := chg_lt hA ho hc; omega
  have hg : S.a 21 o = 0 ↔ A.gone o = 0 := by
    rw [hop.2.2.2.2.2.2.2.1]
    exact nI_eq (b := 0) (by have := (hA.2.2.1.1 o ho).2.2.2.2.2.1; omega) (by decide)
  have how : S.a 12 o = nI r ↔ A.own o = r := by
    rw [hop.2.2.2.2.1]
    exact nI_eq (by have := (hA.2.2.1.1 o ho).1; omega) (by omega)
  have hch : 0 ≤ S.a 13 o ↔ A.chg o ≠ none := by rw [hop.2.2.2.2.2.1]; exact cI_neg hcl
  unfold opnR
  simp only [hg, hch, how]
  congr 2
  cases A.chg o <;> rfl
theorem pS_numberOf (hR : RS S A) (hA : AI A) (hr : r < 8) {x : Nat} (hx : x < 8) : m_rnumberOf S (nI r) (nI x) = some (S, nI (A.hv r x)) := by
  have hm := hA.1.2.1
  rw [pr_numberOf hr hR.1.2.1 hm, ← cnt_clock hA (hA.2.1.2.2.2.2.2.1.1 r x)]
  congr 3
  refine cntTo_congr (fun c hc => ?_)
  unfold rNo
  rw [((hR.2.2.2.2.2.2.2 r hr).2 c (by omega)).1, (hR.2.2.2.2.2.1 c hc).1]
  have hca := (hA.2.1.1 c hc).1
  have e1 : (nI (A.ca c) = nI x) ↔ A.ca c = x := nI_eq (by omega) (by omega)
  simp only [e1]
  by_cases e : A.ca c = x
  · have : A.hasB r c = decide (A.cu c ≤ A.hv r x) := by unfold AS.hasB; rw [e, decide_eq_true hc]; simp
    rw [this]
    cases decide (A.cu c ≤ A.hv r x) <;> rfl
  · simp [e]
theorem pS_view (hR : RS S A) (hA : AI A) (hr : r < 8) : m_rview S (nI r) = some (S, nI (match A.lk r with | none => A.nch r | some c => sumTo (A.cl c) 8)) := by
  have hm := hA.1.2.1
  have hrp := hR.2.2.2.2.2.2.2 r hr
  rw [pr_view hr hR.1.2.1 hm]
  congr 3
  have hlk : 0 ≤ S.a 39 r ↔ A.lk r ≠ none := by
    rw [hrp.1]
    exact cI_neg (fun c hc => by have := (hA.2.1.2.2.2.2.2.2.2.2.1 r c hc).1; omega)
  cases hl : A.lk r with
  | none =>
    show _ = cntTo (A.hasB r) A.m
    refine cntTo_congr (fun c hc => ?_)
    unfold rVw
    rw [if_neg (by rw [hlk, hl]; simp), (hrp.2 c (by omega)).1]
    cases A.hasB r c <;> rfl
  | some c0 =>
    have hc0 := (hA.2.1.2.2.2.2.2.2.2.2.1 r c0 hl).1
    show _ = sumTo (A.cl c0) 8
    rw [← cnt_clocks hA (fun a => hA.2.1.2.2.2.2.2.1.2.1 c0 a hc0)]
    refine cntTo_congr (fun c hc => ?_)
    unfold rVw
    rw [if_pos (by rw [hlk, hl]; simp), (hrp.2 c (by omega)).2.2.2.2 c0 hl]
    unfold AS.cloB
    rw [decide_eq_true hc]
    simp only [Bool.true_and]
    cases decide (A.cu c ≤ A.cl c0 (A.ca c)) <;> rfl
theorem cnt_heads (G : RC N C A rd) (hA : AI A) (hr : r < 8) : cntTo (fun a => (C.q 16 (1 + r) a).isSome) 8 = cntTo (A.headB r) A.m := by
  have hq := (G.rp r hr).2.2.1
  apply Nat.le_antisymm
  · refine cnt_inj (fun a => (C.q 16 (1 + r) a).getD 0) ?_ ?_
    · intro a ha hp
      cases e : C.q 16 (1 + r) a with
      | none => rw [e] at hp; cases hp
      | some d =>
        have h := (hq a d ha).mp e
        exact ⟨h.1.1.1, headB_iff.mpr h.1⟩
    · intro a b ha hb hp hp2 he
      cases e : C.q 16 (1 + r) a with
      | none => rw [e] at hp; cases hp
      | some d =>
        cases e2 : C.q 16 (1 + r) b with
        | none => rw [e2] at hp2; cases hp2
        | some d2 =>
          rw [e, e2] at he
          have he : d = d2 := he
          have h1 := ((hq a d ha).mp e).2
          have h2 := ((hq b d2 hb).mp e2).2
          rw [← h1, ← h2, he]
  · refine cnt_inj A.ca ?_ ?_
    · intro c hc hp
      have hca := (hA.2.1.1 c hc).1
      refine ⟨hca, ?_⟩
      rw [(hq (A.ca c) c hca).mpr ⟨headB_iff.mp hp, rfl⟩]
      rfl
    · intro c d hc hd hp hp2 he
      exact head_one hA.2.1 (headB_iff.mp hp) (headB_iff.mp hp2) he
theorem cR_headsNow (G : RC N C A rd) (hA : AI A) (hr : r < 8) : m_cRp_headsNow N r C = some (C, nI (cntTo (A.headB r) A.m)) := by
  obtain ⟨u0, u1, u2, u3, u4, u5, u6, u7, u8, u9, u10, u11, u12, u13, u14, u15, u16, u17, u18⟩ := G.nn
  have hsz := G.sz.2.2.2.2.2.2.2.2.2.2.2.2.1 r hr
  rw [← cnt_heads G hA hr]
  have := lp_run (body := fun w : CS × Int32 × Int32 => m_cRp_headsNow_B4 N r w.1 w.2.1 w.2.2) (fun i w => w = (C, nI (cntTo (fun a => (C.q 16 (1 + r) a).isSome) i), nI i)) (fun e => e = (C, nI (cntTo (fun a => (C.q 16 (1 + r) a).isSome) 8))) 8 ?_ FU (C, nI 0, nI 0) (by unfold FU; omega) rfl
  · obtain ⟨e, h1, rfl⟩ := this
    unfold m_cRp_headsNow m_cRp_headsNow_J0
    rw [show m_cRp_headsNow_L4 N r C 0 0 = some (C, nI (cntTo (fun a => (C.q 16 (1 + r) a).isSome) 8)) by unfold m_cRp_headsNow_L4; exact h1]
    rfl
  · rintro i _ hi rfl
    unfold m_cRp_headsNow_B4 m_cRp_headsNow_J22
    by_cases hin : i < 8
    · left
      refine ⟨_, ?_, hin, rfl⟩
      simp (disch := omega) only [gd_ok, cl_nI, nI_s, nI_add, nI_leI, nI_ltI, nI_eq, if_pos, if_neg, q0, q1, q2, q3, q4, q5, q6, q7, q8, q9, q10, CS.i_setI, CS.l_setI, CS.r_setI, CS.a_setI, CS.q_setI, CS.z_setI, CS.i_setL, CS.l_setL, CS.r_setL, CS.a_setL, CS.q_setL, CS.z_setL, CS.i_setR, CS.l_setR, CS.r_setR, CS.a_setR, CS.q_setR, CS.z_setR, CS.i_setA, CS.l_setA, CS.r_setA, CS.a_setA, CS.q_setA, CS.z_setA, CS.i_setQ, CS.l_setQ, CS.r_setQ, CS.a_setQ, CS.q_setQ, CS.z_setQ, CS.i_setF, CS.l_setF, CS.r_setF, CS.a_setF, CS.q_setF, CS.z_setF, CS.i_new, CS.l_new, CS.r_new, CS.a_new, CS.q_new, CS.z_new, Nat.reduceEqDiff, false_and, true_and, and_false, and_true, if_true, if_false, b2_0, b2_1, b2_nn, n0_or, n1_or, n10, n01, dec1, dec2, ob_ok, oe_l, oe_r, gl_ok, gle_ok, gn_s, gv_ok, gv_none, on_none, onSome,u4, hsz.2.2.2.1, u16, hsz.2.2.2.2.2.1]
      rw [cntTo_s]
      cases C.q 16 (1 + r) i with
      | none => rfl
      | some d => simp (disch := omega) only [gd_ok, cl_nI, nI_s, nI_add, nI_leI, nI_ltI, nI_eq, if_pos, if_neg, q0, q1, q2, q3, q4, q5, q6, q7, q8, q9, q10, CS.i_setI, CS.l_setI, CS.r_setI, CS.a_setI, CS.q_setI, CS.z_setI, CS.i_setL, CS.l_setL, CS.r_setL, CS.a_setL, CS.q_setL, CS.z_setL, CS.i_setR, CS.l_setR, CS.r_setR, CS.a_setR, CS.q_setR, CS.z_setR, CS.i_setA, CS.l_setA, CS.r_setA, CS.a_setA, CS.q_setA, CS.z_setA, CS.i_setQ, CS.l_setQ, CS.r_setQ, CS.a_setQ, CS.q_setQ, CS.z_setQ, CS.i_setF, CS.l_setF, CS.r_setF, CS.a_setF, CS.q_setF, CS.z_setF, CS.i_new, CS.l_new, CS.r_new, CS.a_new, CS.q_new, CS.z_new, Nat.reduceEqDiff, false_and, true_and, and_false, and_true, if_true, if_false, b2_0, b2_1, b2_nn, n0_or, n1_or, n10, n01, dec1, dec2, ob_ok, oe_l, oe_r, gl_ok, gle_ok, gn_s, gv_ok, gv_none, on_none, onSome,Option.isSome_some]
    · right
      refine ⟨_, ?_, rfl⟩
      rw [show i = 8 by omega]
      rfl
theorem cR_changesInView (G : RC N C A rd) (hA : AI A) (hr : r < 8) : m_cRp_changesInView N r C = some (C, nI (match A.lk r with | none => A.nch r | some c => sumTo (A.cl c) 8)) := by
  obtain ⟨u0, u1, u2, u3, u4, u5, u6, u7, u8, u9, u10, u11, u12, u13, u14, u15, u16, u17, u18⟩ := G.nn
  have hrp := G.rp r hr
  have hz12 := G.sz.2.2.2.2.2.2.2.2.2.2.2.2.2.1
  unfold m_cRp_changesInView m_cRp_changesInView_J0
  cases hl : A.lk r with
  | none =>
    have hlr : C.r 4 4 r = none := by rw [hrp.2.2.2.1, hl]
    simp (disch := omega) only [gd_ok, cl_nI, nI_s, nI_add, nI_leI, nI_ltI, nI_eq, if_pos, if_neg, q0, q1, q2, q3, q4, q5, q6, q7, q8, q9, q10, CS.i_setI, CS.l_setI, CS.r_setI, CS.a_setI, CS.q_setI, CS.z_setI, CS.i_setL, CS.l_setL, CS.r_setL, CS.a_setL, CS.q_setL, CS.z_setL, CS.i_setR, CS.l_setR, CS.r_setR, CS.a_setR, CS.q_setR, CS.z_setR, CS.i_setA, CS.l_setA, CS.r_setA, CS.a_setA, CS.q_setA, CS.z_setA, CS.i_setQ, CS.l_setQ, CS.r_setQ, CS.a_setQ, CS.q_setQ, CS.z_setQ, CS.i_setF, CS.l_setF, CS.r_setF, CS.a_setF, CS.q_setF, CS.z_setF, CS.i_new, CS.l_new, CS.r_new, CS.a_new, CS.q_new, CS.z_new, Nat.reduceEqDiff, false_and, true_and, and_false, and_true, if_true, if_false, b2_0, b2_1, b2_nn, n0_or, n1_or, n10, n01, dec1, dec2, ob_ok, oe_l, oe_r, gl_ok, gle_ok, gn_s, gv_ok, gv_none, on_none, onSome,u4, hlr, hrp.2.2.2.2.1]
  | some c =>
    have hlr : C.r 4 4 r = some c := by rw [hrp.2.2.2.1, hl]
    have hc := (hA.2.1.2.2.2.2.2.2.2.2.1 r c hl).1
    have hcg := G.cg.2.2.2 c hc
    have hz := hz12 (10 + c) (by omega)
    have := lp_run (body := fun w : CS × Int32 × Int32 => m_cRp_changesInView_B16 N r w.1 w.2.1 w.2.2) (fun i w => w = (C, nI (sumTo (A.cl c) i), nI i)) (fun e => e = (C, nI (sumTo (A.cl c) 8))) 8 ?_ FU (C, nI 0, nI 0) (by unfold FU; omega) rfl
    · obtain ⟨e, h1, rfl⟩ := this
      rw [gl_ok (by omega), hlr, onSome]
      rw [show m_cRp_changesInView_L16 N r C 0 0 = some (C, nI (sumTo (A.cl c) 8)) by unfold m_cRp_changesInView_L16; exact h1]
      rfl
    · rintro i _ hi rfl
      unfold m_cRp_changesInView_B16
      by_cases hin : i < 8
      · left
        refine ⟨_, ?_, hin, rfl⟩
        simp (disch := omega) only [gd_ok, cl_nI, nI_s, nI_add, nI_leI, nI_ltI, nI_eq, if_pos, if_neg, q0, q1, q2, q3, q4, q5, q6, q7, q8, q9, q10, CS.i_setI, CS.l_setI, CS.r_setI, CS.a_setI, CS.q_setI, CS.z_setI, CS.i_setL, CS.l_setL, CS.r_setL, CS.a_setL, CS.q_setL, CS.z_setL, CS.i_setR, CS.l_setR, CS.r_setR, CS.a_setR, CS.q_setR, CS.z_setR, CS.i_setA, CS.l_setA, CS.r_setA, CS.a_setA, CS.q_setA, CS.z_setA, CS.i_setQ, CS.l_setQ, CS.r_setQ, CS.a_setQ, CS.q_setQ, CS.z_setQ, CS.i_setF, CS.l_setF, CS.r_setF, CS.a_setF, CS.q_setF, CS.z_setF, CS.i_new, CS.l_new, CS.r_new, CS.a_new, CS.q_new, CS.z_new, Nat.reduceEqDiff, false_and, true_and, and_false, and_true, if_true, if_false, b2_0, b2_1, b2_nn, n0_or, n1_or, n10, n01, dec1, dec2, ob_ok, oe_l, oe_r, gl_ok, gle_ok, gn_s, gv_ok, gv_none, on_none, onSome,u4, hlr, u0, hcg.2.2.2.2.2.2.2.1, u12, hz, hcg.2.2.2.2.2.2.2.2.1 i hin]
        rfl
      · right
        refine ⟨_, ?_, rfl⟩
        rw [show i = 8 by omega]
        rfl
theorem call_count (hI : INV S N C A rd) (x1 x2 : Int32) : RLIKE [(1, 1)] A rd N (m_cJT_count N 0 C x1 x2) (m_rcount S x1 x2) := by
  obtain ⟨hR, G, hA, bi, bf, bs, bo, ji, jf, js, a, hio⟩ := hI
  obtain ⟨u0, u1, u2, u3, u4, u5, u6, u7, u8, u9, u10, u11, u12, u13, u14, u15, u16, u17, u18⟩ := G.nn
  obtain ⟨s1, s2, s3, s4, s5, s6, s7, s8, s9, s10, s11, s12, s13, s14, s15, s16, s17, s18, s19, s20, s21⟩ := G.st
  have hm := hA.1.2.1
  have hnn := hA.1.1
  rcases rep_or x1 with hx1 | ⟨r, hr, rfl⟩
  · refine rlikeT (t := 1) (k := 1) (C' := C) (S1 := S) (v := nI 0) ?_ (pr_countN hx1) rfl hR G hA hio (Nat.le_refl _) (by omega)
    unfold m_cJT_count m_cJT_count_J0
    simp (disch := omega) only [gd_ok, cl_nI, nI_s, nI_add, nI_leI, nI_ltI, nI_eq, if_pos, if_neg, q0, q1, q2, q3, q4, q5, q6, q7, q8, q9, q10, CS.i_setI, CS.l_setI, CS.r_setI, CS.a_setI, CS.q_setI, CS.z_setI, CS.i_setL, CS.l_setL, CS.r_setL, CS.a_setL, CS.q_setL, CS.z_setL, CS.i_setR, CS.l_setR, CS.r_setR, CS.a_setR, CS.q_setR, CS.z_setR, CS.i_setA, CS.l_setA, CS.r_setA, CS.a_setA, CS.q_setA, CS.z_setA, CS.i_setQ, CS.l_setQ, CS.r_setQ, CS.a_setQ, CS.q_setQ, CS.z_setQ, CS.i_setF, CS.l_setF, CS.r_setF, CS.a_setF, CS.q_setF, CS.z_setF, CS.i_new, CS.l_new, CS.r_new, CS.a_new, CS.q_new, CS.z_new, Nat.reduceEqDiff, false_and, true_and, and_false, and_true, if_true, if_false, b2_0, b2_1, b2_nn, n0_or, n1_or, n10, n01, dec1, dec2, ob_ok, oe_l, oe_r, gl_ok, gle_ok, gn_s, gv_ok, gv_none, on_none, onSome,u11, cJ_shownN hx1]
  · obtain ⟨C2, hsh, G2, hv2, hfr2⟩ := cJ_shown G hA hr
    have hio2 := hio.fr frS.refl hfr2
    have hrp := G2.rp r hr
    have hsz := G2.sz.2.2.2.2.2.2.2.2.2.2.2.2.1 r hr
    have hz := G2.sz.2.2.2.2.2.2.2.2.2.2.2.2.2.1 r (by omega)
    have hR0 : RS (S.setI 0 (nI 0)) A := hR.setI rfl
    obtain ⟨da, dm, hds, hdp⟩ := rs_dp hR hA
    have hok : rOK S da dm A.n A.m := ⟨rs_rB hR, hR.1.1, hnn, hR.1.2.1, hm, fun o ho => rs_rC hR hA ho, hds⟩
    have main : ∀ v, m_cJT_count N 0 C (nI r) x2 = some (.inl (C2, v)) → rCnt (S.setI 0 0) da dm A.n A.m r x2 = v → RLIKE [(1, 1)] A rd N (m_cJT_count N 0 C (nI r) x2) (m_rcount S (nI r) x2) := by
      intro v h1 h2
      refine rlikeV (C' := C2) (S1 := S) (v := v) h1 ?_ hR G2 hA hio2 (Nat.le_refl _) (by omega)
      rw [pr_count hok hr, h2]
      rfl
    have hx : m_cJT_count N 0 C (nI r) x2 = (if x2 < 10 then m_cJT_count_J28 N 0 C2 x2 (some r) else (if 18 ≤ x2 then m_cJT_count_J28 N 0 C2 x2 (some r) else gn (some r) (N 4) (fun j_6 => gn (C2.r 4 1 j_6) (N 12) (fun j_9 => gd (x2 - 10) (C2.z 12 j_9) (some (.inl (C2, C2.a 12 j_9 ((x2 - 10).toNatClampNeg)))))))) := by
      unfold m_cJT_count m_cJT_count_J0
      rw [gl_ok (by omega), hsh]
      rfl
    by_cases c10 : x2 < 10
    · rw [if_pos c10] at hx
      unfold m_cJT_count_J28 at hx
      have hg : ∀ {τ : Type} (f : Nat → Option τ), gn (some r) (N 4) f = f r := fun f => gn_s (by omega)
      by_cases c0 : x2 = 0
      · refine main _ (by rw [hx, if_pos c0, hg]) ?_
        unfold rCnt
        rw [if_pos c0, hrp.2.2.2.2.1]
        congr 1
        refine cntTo_congr (fun c hc => ?_)
        rw [MS.a_setI, ((hR.2.2.2.2.2.2.2 r hr).2 c (by omega)).1]
        cases A.hasB r c <;> rfl
      rw [if_neg c0] at hx
      by_cases c1 : x2 = 1
      · refine main _ (by rw [hx, if_pos c1, hg]) ?_
        unfold rCnt
        rw [if_neg c0, if_pos c1, hrp.2.2.2.2.2.1]
        congr 1
        refine cntTo_congr (fun c hc => ?_)
        rw [MS.a_setI, ((hR.2.2.2.2.2.2.2 r hr).2 c (by omega)).2.1]
        cases A.wt r c <;> rfl
      rw [if_neg c1] at hx
      by_cases c2 : x2 = 2
      · refine main _ (by rw [hx, if_pos c2, hg, cR_headsNow G2 hA hr]; rfl) ?_
        unfold rCnt
        rw [if_neg c0, if_neg c1, if_pos c2]
        congr 1
        refine cntTo_congr (fun c hc => ?_)
        exact rHd_A hR0 hA hr hdp (by omega)
      rw [if_neg c2] at hx
      by_cases c3 : x2 = 3
      · refine main _ (by rw [hx, if_pos c3, hg]) ?_
        unfold rCnt
        rw [if_neg c0, if_neg c1, if_neg c2, if_pos c3, hrp.2.2.2.2.2.2.2.2]
        have h1 := pS_open hR0 hA hr
        rw [pr_open hR0.1.1 hnn] at h1
        exact (Prod.mk.inj (Option.some.inj h1)).2
      rw [if_neg c3] at hx
      by_cases c4 : x2 = 4
      · refine main _ (by rw [hx, if_pos c4, hg]) ?_
        unfold rCnt
        rw [if_neg c0, if_neg c1, if_neg c2, if_neg c3, if_pos c4, hrp.2.2.2.2.2.2.1]
        congr 1
        exact cntTo_congr (fun o ho => rOwn_A hR0 hA hr ho)
      rw [if_neg c4] at hx
      by_cases c5 : x2 = 5
      · refine main _ (by rw [hx, if_pos c5, hg]) ?_
        unfold rCnt
        rw [if_neg c0, if_neg c1, if_neg c2, if_neg c3, if_neg c4, if_pos c5, hrp.2.2.2.2.2.2.2.1]
        have h1 := pS_greatest hR0 hA hr
        rw [pr_greatest (rs_rB hR0) hr hR0.1.1 hnn (fun o ho => rs_rC hR0 hA ho)] at h1
        exact (Prod.mk.inj (Option.some.inj h1)).2
      rw [if_neg c5] at hx
      by_cases c6 : x2 = 6
      · refine main _ (by rw [hx, if_pos c6, hg, cR_changesInView G2 hA hr]; rfl) ?_
        unfold rCnt
        rw [if_neg c0, if_neg c1, if_neg c2, if_neg c3, if_neg c4, if_neg c5, if_pos c6]
        have h1 := pS_view hR0 hA hr
        rw [pr_view hr hR0.1.2.1 hm] at h1
        exact (Prod.mk.inj (Option.some.inj h1)).2
      rw [if_neg c6] at hx
      refine main _ hx ?_
      unfold rCnt
      rw [if_neg c0, if_neg c1, if_neg c2, if_neg c3, if_neg c4, if_neg c5, if_neg c6, if_pos c10]
    · rw [if_neg c10] at hx
      have n0 : ¬ x2 = 0 := by rintro rfl; exact c10 (by decide)
      have n1 : ¬ x2 = 1 := by rintro rfl; exact c10 (by decide)
      have n2 : ¬ x2 = 2 := by rintro rfl; exact c10 (by decide)
      have n3 : ¬ x2 = 3 := by rintro rfl; exact c10 (by decide)
      have n4 : ¬ x2 = 4 := by rintro rfl; exact c10 (by decide)
      have n5 : ¬ x2 = 5 := by rintro rfl; exact c10 (by decide)
      have n6 : ¬ x2 = 6 := by rintro rfl; exact c10 (by decide)
      by_cases c18 : 18 ≤ x2
      · rw [if_pos c18] at hx
        unfold m_cJT_count_J28 at hx
        rw [if_neg n0, if_neg n1, if_neg n2, if_neg n3, if_neg n4, if_neg n5, if_neg n6] at hx
        refine main _ hx ?_
        unfold rCnt
        rw [if_neg n0, if_neg n1, if_neg n2, if_neg n3, if_neg n4, if_neg n5, if_neg n6, if_neg c10, if_pos c18]
      · rw [if_neg c18] at hx
        have hk : ∃ k, k < 8 ∧ x2 = nI (10 + k) := by
          have h0 : ¬ x2 < nI 0 := fun h => c10 (Int32.lt_trans h (by decide))
          obtain ⟨p, hp, rfl⟩ := nI_of h0
          have h1 : ¬ p < 10 := fun h => c10 ((nI_ltI (b := 10) (by omega) (by omega)).mpr h)
          have h2 : ¬ 18 ≤ p := fun h => c18 ((nI_leI (a := 18) (by omega) (by omega)).mpr h)
          exact ⟨p - 10, by omega, by rw [show 10 + (p - 10) = p by omega]⟩
        obtain ⟨k, hk, rfl⟩ := hk
        have e10 : nI (10 + k) - 10 = nI k := by
          rw [← nI_add, show (10 : Int32) = nI 10 from q10, Int32.add_comm, Int32.add_sub_cancel]
        rw [e10, gn_s (by omega), hsz.2.1, gn_s (by omega), hz, gd_ok (by omega) (by omega), cl_nI (by omega), hrp.1 k hk] at hx
        refine main _ hx ?_
        unfold rCnt
        rw [if_neg n0, if_neg n1, if_neg n2, if_neg n3, if_neg n4, if_neg n5, if_neg n6, if_neg c10, if_neg c18, e10]
        have h1 := pS_numberOf hR0 hA hr hk
        rw [pr_numberOf hr hR0.1.2.1 hm] at h1
        exact (Prod.mk.inj (Option.some.inj h1)).2
end CCO
