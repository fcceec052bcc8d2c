/-! THE CLASS: top, places by index, how many are filled, counters. -/
section VT
variable {N : Nat → Nat} {C : CS} {A : AS} {r rd : Nat}
/-- the view has run at most K gathers more -/
def VR (A : AS) (C : CS) (rd K : Nat) (C' : CS) : Prop := ∃ g h sz rd', C' = C.vs g h sz (nI rd') ∧ rd ≤ rd' ∧ rd' ≤ rd + K ∧ (∀ j, j < A.n + 1 → ∃ t, t ≤ rd' ∧ g j = nI t) ∧ ∀ p y, h p = some y → y < A.n + 1
theorem VR.toRC {K : Nat} {C' : CS} (h : VR A C rd K C') (G : RC N C A rd) : ∃ rd', rd ≤ rd' ∧ rd' ≤ rd + K ∧ RC N C' A rd' := by
  obtain ⟨g, hh, sz, rd', rfl, a, b, c, d⟩ := h
  exact ⟨rd', a, b, G.vs c d⟩
theorem VR.toVC {K : Nat} {C' : CS} (h : VR A C rd K C') (hv : VC C A r) : VC C' A r := by
  obtain ⟨g, hh, sz, rd', rfl, _⟩ := h
  exact hv.vs
theorem VR.refl (G : RC N C A rd) {K : Nat} : VR A C rd K C := ⟨C.i 3 14, C.q 15 1, C.i 10 3 0, rd, by rw [← G.2.1, vs_self], by omega, by omega, G.2.2.1, G.2.2.2⟩
theorem VR.rr {K : Nat} {C' : CS} (h : VR A C rd K C') : C'.r = C.r := by
  obtain ⟨g, hh, sz, rd', rfl, _⟩ := h
  rfl
theorem VR.mono {K K' : Nat} {C' : CS} (h : VR A C rd K C') (hk : K ≤ K') : VR A C rd K' C' := by
  obtain ⟨g, hh, sz, rd', h1, a, b, c⟩ := h
  exact ⟨g, hh, sz, rd', h1, a, by omega, c⟩
/-- one run more -/
theorem VR.trans {K K' rd1 : Nat} {C1 C2 : CS} (h : VR A C rd K C1) (h1 : rd ≤ rd1) (h2 : rd1 ≤ rd + K) (h3 : VR A C1 rd1 K' C2) : VR A C rd (K + K') C2 := by
  obtain ⟨g, hh, sz, rd', rfl, a, b, c, d⟩ := h
  obtain ⟨g2, hh2, sz2, rd2, rfl, a2, b2, c2, d2⟩ := h3
  exact ⟨g2, hh2, sz2, rd2, vs_vs, by omega, by omega, c2, d2⟩
theorem cV_gatherV (G : RC N C A rd) (hA : AI A) (hv : VC C A r) {s : Nat} (hs : s < A.n) (hss : A.sp s = s) (hrd : rd < 2 ^ 30) :
    ∃ C', m_cVw_gather N 0 C (A.sj s) = some C' ∧ VR A C rd 1 C' ∧ RC N C' A (rd + 1) ∧ C'.i 10 3 0 = nI (A.cd r s).length ∧ ∀ k (hk : k < (A.cd r s).length), C'.q 15 1 k = some ((A.cd r s)[k] + 1) := by
  obtain ⟨g, h, h1, h2, h3, h4⟩ := cV_gather G hA hv hs hss hrd
  exact ⟨_, h1, ⟨g, h, _, rd + 1, rfl, by omega, by omega, h2, h3⟩, G.vs h2 h3, rfl, h4⟩
theorem cV_top (G : RC N C A rd) (hA : AI A) (hv : VC C A r) {s : Nat} (hs : s < A.n) (hss : A.sp s = s) (hrd : rd < 2 ^ 30) :
    ∃ C', m_cVw_top N 0 C (A.sj s) = some (C', if A.flB r s then some (A.top r s + 1) else none) ∧ VR A C rd 1 C' ∧ RC N C' A (rd + 1) := by
  obtain ⟨C', h1, h2, h3, h4, h5⟩ := cV_gatherV G hA hv hs hss hrd
  refine ⟨C', ?_, h2, h3⟩
  obtain ⟨u0, u1, u2, u3, u4, u5, u6, u7, u8, u9, u10, u11, u12, u13, u14, u15, u16, u17, u18⟩ := G.nn
  have hl := (G.ln.1 s hs hss).1
  have hr2 := h2.rr
  obtain ⟨s1, s2, s3, s4, s5, s6, s7, s8, s9, s10, s11, s12, s13, s14, s15, s16, s17, s18, s19, s20, s21⟩ := h3.st
  have hz1 := h3.sz.2.1
  have hcl := cd_len hA (r := r) (s := s)
  unfold m_cVw_top m_cVw_top_J0 m_cVw_top_J22
  simp (disch := omega) only [gd_ok, cl_nI, nI_s, nI_add, nI_leI, nI_ltI, nI_eq, if_pos, if_neg, q0, q1, q2, q3, q4, q5, q6, q7, q8, q9, q10, CS.i_setI, CS.l_setI, CS.r_setI, CS.a_setI, CS.q_setI, CS.z_setI, CS.i_setL, CS.l_setL, CS.r_setL, CS.a_setL, CS.q_setL, CS.z_setL, CS.i_setR, CS.l_setR, CS.r_setR, CS.a_setR, CS.q_setR, CS.z_setR, CS.i_setA, CS.l_setA, CS.r_setA, CS.a_setA, CS.q_setA, CS.z_setA, CS.i_setQ, CS.l_setQ, CS.r_setQ, CS.a_setQ, CS.q_setQ, CS.z_setQ, CS.i_setF, CS.l_setF, CS.r_setF, CS.a_setF, CS.q_setF, CS.z_setF, CS.i_new, CS.l_new, CS.r_new, CS.a_new, CS.q_new, CS.z_new, Nat.reduceEqDiff, false_and, true_and, and_false, and_true, if_true, if_false, b2_0, b2_1, b2_nn, n0_or, n1_or, n10, n01, dec1, dec2, ob_ok, oe_l, oe_r, gl_ok, gle_ok, gn_s, gv_ok, gv_none, on_none, onSome,u7, u10, h1, h4, s14, u15, hz1]
  cases hc : A.cd r s with
  | nil =>
    have : A.flB r s = false := by unfold AS.flB; simp [hc]
    simp [this]
  | cons a l =>
    have : A.flB r s = true := by unfold AS.flB; simp [hc]
    have h6 := h5 0 (by rw [hc]; simp)
    have ht : A.top r s = a := by unfold AS.top; rw [hc]; rfl
    simp only [hc, List.getElem_cons_zero] at h6
    rw [if_neg (by simp), this, if_pos rfl, ht, h6]
theorem L_mem (hA : AI A) {x : Option Nat} {s : Nat} (h : s ∈ A.L x) : s < A.n ∧ A.obj s = x ∧ A.sp s = s := ((hA.2.2.1.2.2.2.2.2.2.2.2.1 x).2.1 s).mp h
theorem L_len (hA : AI A) {x : Option Nat} : (A.L x).length ≤ A.n :=
  nodup_len A.n _ (hA.2.2.1.2.2.2.2.2.2.2.2.1 x).1 (fun _ hs => (L_mem hA hs).1)
theorem cV_filledBefore (G : RC N C A rd) (hA : AI A) (hv : VC C A r) {x : Option Nat} (hx : ∀ m, x = some m → m < A.n) (hrd : rd + 4000 < 2 ^ 30) (e : Option Nat) (he : ∀ s, e = some s → s ∈ A.L x) :
    ∃ C', m_cVw_filledBefore N 0 C (e.map A.sj) (ox x) = some (C', nI (((A.L x).takeWhile (fun t => decide (e ≠ some t))).filter (A.flB r)).length) ∧ VR A C rd (A.L x).length C' := by
  obtain ⟨u0, u1, u2, u3, u4, u5, u6, u7, u8, u9, u10, u11, u12, u13, u14, u15, u16, u17, u18⟩ := G.nn
  have hln := L_len hA (x := x)
  have hnn := hA.1.1
  have hch := G.ln.2.2 x hx
  have hinj := G.ln.2.1
  have hox : ox x < A.n + 1 := by
    cases x with
    | none => simp [ox]
    | some m => have := hx m rfl; simp [ox]; omega
  have hej : ∀ s, e = some s → A.sj s < A.ns := fun s hs => (G.ln.1 s (L_mem hA (he s hs)).1 (L_mem hA (he s hs)).2.2).1
  have := lp_run (body := fun c : CS × Option Nat × Int32 × Option Nat => m_cVw_filledBefore_B8 N 0 c.1 c.2.1 c.2.2.1 c.2.2.2)
    (fun i c => ∃ C1 y l1 l2, A.L x = l1 ++ l2 ∧ l1.length = i ∧ c = (C1, e.map A.sj, nI (l1.filter (A.flB r)).length, y) ∧ VR A C rd i C1 ∧ chn (C.r 7 2) y (l2.map A.sj) ∧ ∀ t, t ∈ l1 → e ≠ some t)
    (fun o => ∃ C1, o = (C1, nI (((A.L x).takeWhile (fun t => decide (e ≠ some t))).filter (A.flB r)).length) ∧ VR A C rd (A.L x).length C1) (A.L x).length ?_ FU (C, e.map A.sj, nI 0, C.r 3 13 (ox x)) (by unfold FU; omega) ?_
  · obtain ⟨o, h1, C1, rfl, h2⟩ := this
    refine ⟨C1, ?_, h2⟩
    have h1' : m_cVw_filledBefore_L8 N 0 C (e.map A.sj) (nI 0) (C.r 3 13 (ox x)) = some (C1, nI (((A.L x).takeWhile (fun t => decide (e ≠ some t))).filter (A.flB r)).length) := h1
    unfold m_cVw_filledBefore m_cVw_filledBefore_J0 m_cVw_filledBefore_J41
    simp (disch := omega) only [gd_ok, cl_nI, nI_s, nI_add, nI_leI, nI_ltI, nI_eq, if_pos, if_neg, q0, q1, q2, q3, q4, q5, q6, q7, q8, q9, q10, CS.i_setI, CS.l_setI, CS.r_setI, CS.a_setI, CS.q_setI, CS.z_setI, CS.i_setL, CS.l_setL, CS.r_setL, CS.a_setL, CS.q_setL, CS.z_setL, CS.i_setR, CS.l_setR, CS.r_setR, CS.a_setR, CS.q_setR, CS.z_setR, CS.i_setA, CS.l_setA, CS.r_setA, CS.a_setA, CS.q_setA, CS.z_setA, CS.i_setQ, CS.l_setQ, CS.r_setQ, CS.a_setQ, CS.q_setQ, CS.z_setQ, CS.i_setF, CS.l_setF, CS.r_setF, CS.a_setF, CS.q_setF, CS.z_setF, CS.i_new, CS.l_new, CS.r_new, CS.a_new, CS.q_new, CS.z_new, Nat.reduceEqDiff, false_and, true_and, and_false, and_true, if_true, if_false, b2_0, b2_1, b2_nn, n0_or, n1_or, n10, n01, dec1, dec2, ob_ok, oe_l, oe_r, gl_ok, gle_ok, gn_s, gv_ok, gv_none, on_none, onSome,u3, h1']
  · rintro i _ hi ⟨C1, y, l1, l2, hL, hil, rfl, hV, hc, hne⟩
    unfold m_cVw_filledBefore_B8 m_cVw_filledBefore_J31
    have htw : ∀ t l3, l2 = t :: l3 → e = some t → (A.L x).takeWhile (fun t => decide (e ≠ some t)) = l1 := by
      intro t l3 h1 h2
      rw [hL, h1, List.takeWhile_append_of_pos (by simpa using hne), List.takeWhile_cons_of_neg (by simp [h2])]
      simp
    cases l2 with
    | nil =>
      right
      have hy : y = none := hc
      subst hy
      simp only [on_none]
      refine ⟨_, rfl, C1, ?_, hV.mono (by omega)⟩
      have h3 : (A.L x).takeWhile (fun t => decide (e ≠ some t)) = l1 := by
        rw [hL, List.append_nil]
        have := List.takeWhile_append_of_pos (p := fun t => decide (e ≠ some t)) (l₁ := l1) (l₂ := []) (by simpa using hne)
        simpa using this
      rw [h3]
    | cons t l2 =>
      obtain ⟨rfl, hc⟩ := hc
      have htL : t ∈ A.L x := by rw [hL]; simp
      have ht := L_mem hA htL
      have htj := (G.ln.1 t ht.1 ht.2.2).1
      by_cases c1 : e = some t
      · right
        have : some (A.sj t) = e.map A.sj := by rw [c1]; rfl
        simp (disch := omega) only [gd_ok, cl_nI, nI_s, nI_add, nI_leI, nI_ltI, nI_eq, if_pos, if_neg, q0, q1, q2, q3, q4, q5, q6, q7, q8, q9, q10, CS.i_setI, CS.l_setI, CS.r_setI, CS.a_setI, CS.q_setI, CS.z_setI, CS.i_setL, CS.l_setL, CS.r_setL, CS.a_setL, CS.q_setL, CS.z_setL, CS.i_setR, CS.l_setR, CS.r_setR, CS.a_setR, CS.q_setR, CS.z_setR, CS.i_setA, CS.l_setA, CS.r_setA, CS.a_setA, CS.q_setA, CS.z_setA, CS.i_setQ, CS.l_setQ, CS.r_setQ, CS.a_setQ, CS.q_setQ, CS.z_setQ, CS.i_setF, CS.l_setF, CS.r_setF, CS.a_setF, CS.q_setF, CS.z_setF, CS.i_new, CS.l_new, CS.r_new, CS.a_new, CS.q_new, CS.z_new, Nat.reduceEqDiff, false_and, true_and, and_false, and_true, if_true, if_false, b2_0, b2_1, b2_nn, n0_or, n1_or, n10, n01, dec1, dec2, ob_ok, oe_l, oe_r, gl_ok, gle_ok, gn_s, gv_ok, gv_none, on_none, onSome,u7, this]
        rw [c1]
        simp only [Option.map_some]
        simp (disch := omega) only [gd_ok, cl_nI, nI_s, nI_add, nI_leI, nI_ltI, nI_eq, if_pos, if_neg, q0, q1, q2, q3, q4, q5, q6, q7, q8, q9, q10, CS.i_setI, CS.l_setI, CS.r_setI, CS.a_setI, CS.q_setI, CS.z_setI, CS.i_setL, CS.l_setL, CS.r_setL, CS.a_setL, CS.q_setL, CS.z_setL, CS.i_setR, CS.l_setR, CS.r_setR, CS.a_setR, CS.q_setR, CS.z_setR, CS.i_setA, CS.l_setA, CS.r_setA, CS.a_setA, CS.q_setA, CS.z_setA, CS.i_setQ, CS.l_setQ, CS.r_setQ, CS.a_setQ, CS.q_setQ, CS.z_setQ, CS.i_setF, CS.l_setF, CS.r_setF, CS.a_setF, CS.q_setF, CS.z_setF, CS.i_new, CS.l_new, CS.r_new, CS.a_new, CS.q_new, CS.z_new, Nat.reduceEqDiff, false_and, true_and, and_false, and_true, if_true, if_false, b2_0, b2_1, b2_nn, n0_or, n1_or, n10, n01, dec1, dec2, ob_ok, oe_l, oe_r, gl_ok, gle_ok, gn_s, gv_ok, gv_none, on_none, onSome,u7]
        refine ⟨_, rfl, C1, ?_, hV.mono (by omega)⟩
        rw [← c1, htw t l2 rfl c1]
      · left
        obtain ⟨rd1, r1, r2, G1⟩ := hV.toRC G
        obtain ⟨C2, t1, t2, t3⟩ := cV_top G1 hA (hV.toVC hv) ht.1 ht.2.2 (by omega)
        have hne2 : ¬ some (A.sj t) = e.map A.sj := by
          intro h2
          cases e with
          | none => cases h2
          | some s =>
            have h3 : A.sj t = A.sj s := by simpa using h2
            have hs := L_mem hA (he s rfl)
            exact c1 (by rw [hinj t s ht.1 hs.1 ht.2.2 hs.2.2 h3])
        have hgv : ∀ {τ : Type} (k : Option τ), gv (e.map A.sj) A.ns k = k := by
          intro τ k
          cases e with
          | none => rfl
          | some s => exact gv_ok (hej s rfl)
        have hV2 : VR A C rd (i + 1) C2 := hV.trans r1 r2 t2
        have hr2 : C2.r = C.r := hV2.rr
        have hlen : l1.length < (A.L x).length := by rw [hL]; simp
        simp (disch := omega) only [gd_ok, cl_nI, nI_s, nI_add, nI_leI, nI_ltI, nI_eq, if_pos, if_neg, q0, q1, q2, q3, q4, q5, q6, q7, q8, q9, q10, CS.i_setI, CS.l_setI, CS.r_setI, CS.a_setI, CS.q_setI, CS.z_setI, CS.i_setL, CS.l_setL, CS.r_setL, CS.a_setL, CS.q_setL, CS.z_setL, CS.i_setR, CS.l_setR, CS.r_setR, CS.a_setR, CS.q_setR, CS.z_setR, CS.i_setA, CS.l_setA, CS.r_setA, CS.a_setA, CS.q_setA, CS.z_setA, CS.i_setQ, CS.l_setQ, CS.r_setQ, CS.a_setQ, CS.q_setQ, CS.z_setQ, CS.i_setF, CS.l_setF, CS.r_setF, CS.a_setF, CS.q_setF, CS.z_setF, CS.i_new, CS.l_new, CS.r_new, CS.a_new, CS.q_new, CS.z_new, Nat.reduceEqDiff, false_and, true_and, and_false, and_true, if_true, if_false, b2_0, b2_1, b2_nn, n0_or, n1_or, n10, n01, dec1, dec2, ob_ok, oe_l, oe_r, gl_ok, gle_ok, gn_s, gv_ok, gv_none, on_none, onSome,u7, u10, hgv, hne2, t1, hr2]
        cases hf : A.flB r t with
        | false =>
          simp only [Bool.false_eq_true, if_false, on_none]
          refine ⟨_, rfl, by omega, C2, C.r 7 2 (A.sj t), l1 ++ [t], l2, by rw [hL]; simp, by simp; omega, ?_, hV2, hc, ?_⟩
          · rw [List.filter_append]; simp [hf]
          · intro z hz
            rcases List.mem_append.mp hz with h5 | h5
            · exact hne z h5
            · rw [List.mem_singleton] at h5; rw [h5]; exact c1
        | true =>
          simp only [if_true, onSome]
          refine ⟨_, rfl, by omega, C2, C.r 7 2 (A.sj t), l1 ++ [t], l2, by rw [hL]; simp, by simp; omega, ?_, hV2, hc, ?_⟩
          · rw [List.filter_append]; simp [hf]
          · intro z hz
            rcases List.mem_append.mp hz with h5 | h5
            · exact hne z h5
            · rw [List.mem_singleton] at h5; rw [h5]; exact c1
  · exact ⟨C, C.r 3 13 (ox x), [], A.L x, rfl, rfl, rfl, VR.refl G, hch, fun t ht => by cases ht⟩
theorem cV_filledIn (G : RC N C A rd) (hA : AI A) (hv : VC C A r) {x : Option Nat} (hx : ∀ m, x = some m → m < A.n) (hrd : rd + 4000 < 2 ^ 30) :
    ∃ C', m_cVw_filledIn N 0 C (ox x) = some (C', nI (A.fl r x).length) ∧ VR A C rd (A.L x).length C' := by
  obtain ⟨u0, u1, u2, u3, u4, u5, u6, u7, u8, u9, u10, u11, u12, u13, u14, u15, u16, u17, u18⟩ := G.nn
  have hox : ox x < A.n + 1 := by
    cases x with
    | none => simp [ox]
    | some m => have := hx m rfl; simp [ox]; omega
  obtain ⟨C', h1, h2⟩ := cV_filledBefore G hA hv hx hrd none (by intro s h; cases h)
  have e1 : (A.L x).takeWhile (fun t => decide ((none : Option Nat) ≠ some t)) = A.L x := by
    have : ∀ l : List Nat, l.takeWhile (fun t => decide ((none : Option Nat) ≠ some t)) = l := by
      intro l
      induction l with
      | nil => rfl
      | cons a l ih => rw [List.takeWhile_cons_of_pos (by simp), ih]
    exact this _
  rw [e1] at h1
  refine ⟨C', ?_, h2⟩
  unfold m_cVw_filledIn m_cVw_filledIn_J0
  simp only [Option.map_none] at h1
  simp (disch := omega) only [gd_ok, cl_nI, nI_s, nI_add, nI_leI, nI_ltI, nI_eq, if_pos, if_neg, q0, q1, q2, q3, q4, q5, q6, q7, q8, q9, q10, CS.i_setI, CS.l_setI, CS.r_setI, CS.a_setI, CS.q_setI, CS.z_setI, CS.i_setL, CS.l_setL, CS.r_setL, CS.a_setL, CS.q_setL, CS.z_setL, CS.i_setR, CS.l_setR, CS.r_setR, CS.a_setR, CS.q_setR, CS.z_setR, CS.i_setA, CS.l_setA, CS.r_setA, CS.a_setA, CS.q_setA, CS.z_setA, CS.i_setQ, CS.l_setQ, CS.r_setQ, CS.a_setQ, CS.q_setQ, CS.z_setQ, CS.i_setF, CS.l_setF, CS.r_setF, CS.a_setF, CS.q_setF, CS.z_setF, CS.i_new, CS.l_new, CS.r_new, CS.a_new, CS.q_new, CS.z_new, Nat.reduceEqDiff, false_and, true_and, and_false, and_true, if_true, if_false, b2_0, b2_1, b2_nn, n0_or, n1_or, n10, n01, dec1, dec2, ob_ok, oe_l, oe_r, gl_ok, gle_ok, gn_s, gv_ok, gv_none, on_none, onSome,u3, u10, h1]
  rfl
theorem cV_spotAt (G : RC N C A rd) (hA : AI A) (hv : VC C A r) {x : Option Nat} (hx : ∀ m, x = some m → m < A.n) (hrd : rd + 4000 < 2 ^ 30) (i : Int32) :
    ∃ C', VR A C rd (A.L x).length C' ∧ ((∃ k s, i = nI k ∧ k < 2 ^ 31 ∧ (A.fl r x)[k]? = some s ∧ m_cVw_spotAt N 0 C (ox x) i = some (C', some (A.sj s))) ∨ ((∀ k, k < (A.fl r x).length → i ≠ nI k) ∧ m_cVw_spotAt N 0 C (ox x) i = some (C', none))) := by
  obtain ⟨u0, u1, u2, u3, u4, u5, u6, u7, u8, u9, u10, u11, u12, u13, u14, u15, u16, u17, u18⟩ := G.nn
  have hln := L_len hA (x := x)
  have hnn := hA.1.1
  have hch := G.ln.2.2 x hx
  have hox : ox x < A.n + 1 := by
    cases x with
    | none => simp [ox]
    | some m => have := hx m rfl; simp [ox]; omega
  have hfln : (A.fl r x).length ≤ A.n := Nat.le_trans (List.length_filter_le _ _) hln
  unfold m_cVw_spotAt m_cVw_spotAt_J0 m_cVw_spotAt_J46
  by_cases hneg : i < nI 0
  · refine ⟨C, VR.refl G, Or.inr ⟨?_, ?_⟩⟩
    · rintro k hk rfl
      exact nI_pos (n := k) (by omega) hneg
    · have : m_cVw_spotAt_L8 N 0 C i (C.r 3 13 (ox x)) = some (.inl C) := by
        unfold m_cVw_spotAt_L8
        show lp _ (999999 + 1) _ = _
        rw [lp]
        have hB : m_cVw_spotAt_B8 N 0 C i (C.r 3 13 (ox x)) = some (.inr (.inl C)) := by
          unfold m_cVw_spotAt_B8
          cases C.r 3 13 (ox x) with
          | none => rfl
          | some j => simp only [onSome, q0]; rw [if_pos hneg]
        simp only [hB]
      simp (disch := omega) only [gd_ok, cl_nI, nI_s, nI_add, nI_leI, nI_ltI, nI_eq, if_pos, if_neg, q0, q1, q2, q3, q4, q5, q6, q7, q8, q9, q10, CS.i_setI, CS.l_setI, CS.r_setI, CS.a_setI, CS.q_setI, CS.z_setI, CS.i_setL, CS.l_setL, CS.r_setL, CS.a_setL, CS.q_setL, CS.z_setL, CS.i_setR, CS.l_setR, CS.r_setR, CS.a_setR, CS.q_setR, CS.z_setR, CS.i_setA, CS.l_setA, CS.r_setA, CS.a_setA, CS.q_setA, CS.z_setA, CS.i_setQ, CS.l_setQ, CS.r_setQ, CS.a_setQ, CS.q_setQ, CS.z_setQ, CS.i_setF, CS.l_setF, CS.r_setF, CS.a_setF, CS.q_setF, CS.z_setF, CS.i_new, CS.l_new, CS.r_new, CS.a_new, CS.q_new, CS.z_new, Nat.reduceEqDiff, false_and, true_and, and_false, and_true, if_true, if_false, b2_0, b2_1, b2_nn, n0_or, n1_or, n10, n01, dec1, dec2, ob_ok, oe_l, oe_r, gl_ok, gle_ok, gn_s, gv_ok, gv_none, on_none, onSome,u3, this]
  · obtain ⟨k, hk, rfl⟩ := nI_of hneg
    have := lp_run (body := fun c : CS × Int32 × Option Nat => m_cVw_spotAt_B8 N 0 c.1 c.2.1 c.2.2)
      (fun i c => ∃ C1 y l1 l2, A.L x = l1 ++ l2 ∧ l1.length = i ∧ (l1.filter (A.flB r)).length ≤ k ∧ c = (C1, nI (k - (l1.filter (A.flB r)).length), y) ∧ VR A C rd i C1 ∧ chn (C.r 7 2) y (l2.map A.sj))
      (fun o => ∃ C1, VR A C rd (A.L x).length C1 ∧ ((∃ s, (A.fl r x)[k]? = some s ∧ o = .inr (C1, some (A.sj s))) ∨ ((A.fl r x).length ≤ k ∧ o = .inl C1))) (A.L x).length ?_ FU (C, nI k, C.r 3 13 (ox x)) (by unfold FU; omega) ?_
    · obtain ⟨o, h1, C1, h2, h3⟩ := this
      have h1' : m_cVw_spotAt_L8 N 0 C (nI k) (C.r 3 13 (ox x)) = some o := h1
      refine ⟨C1, h2, ?_⟩
      rcases h3 with ⟨s, h4, rfl⟩ | ⟨h4, rfl⟩
      · left
        refine ⟨k, s, rfl, hk, h4, ?_⟩
        simp (disch := omega) only [gd_ok, cl_nI, nI_s, nI_add, nI_leI, nI_ltI, nI_eq, if_pos, if_neg, q0, q1, q2, q3, q4, q5, q6, q7, q8, q9, q10, CS.i_setI, CS.l_setI, CS.r_setI, CS.a_setI, CS.q_setI, CS.z_setI, CS.i_setL, CS.l_setL, CS.r_setL, CS.a_setL, CS.q_setL, CS.z_setL, CS.i_setR, CS.l_setR, CS.r_setR, CS.a_setR, CS.q_setR, CS.z_setR, CS.i_setA, CS.l_setA, CS.r_setA, CS.a_setA, CS.q_setA, CS.z_setA, CS.i_setQ, CS.l_setQ, CS.r_setQ, CS.a_setQ, CS.q_setQ, CS.z_setQ, CS.i_setF, CS.l_setF, CS.r_setF, CS.a_setF, CS.q_setF, CS.z_setF, CS.i_new, CS.l_new, CS.r_new, CS.a_new, CS.q_new, CS.z_new, Nat.reduceEqDiff, false_and, true_and, and_false, and_true, if_true, if_false, b2_0, b2_1, b2_nn, n0_or, n1_or, n10, n01, dec1, dec2, ob_ok, oe_l, oe_r, gl_ok, gle_ok, gn_s, gv_ok, gv_none, on_none, onSome,u3, h1']
      · right
        refine ⟨?_, ?_⟩
        · intro k' hk' e
          have := (nI_eq hk (by omega)).mp e
          omega
        · simp (disch := omega) only [gd_ok, cl_nI, nI_s, nI_add, nI_leI, nI_ltI, nI_eq, if_pos, if_neg, q0, q1, q2, q3, q4, q5, q6, q7, q8, q9, q10, CS.i_setI, CS.l_setI, CS.r_setI, CS.a_setI, CS.q_setI, CS.z_setI, CS.i_setL, CS.l_setL, CS.r_setL, CS.a_setL, CS.q_setL, CS.z_setL, CS.i_setR, CS.l_setR, CS.r_setR, CS.a_setR, CS.q_setR, CS.z_setR, CS.i_setA, CS.l_setA, CS.r_setA, CS.a_setA, CS.q_setA, CS.z_setA, CS.i_setQ, CS.l_setQ, CS.r_setQ, CS.a_setQ, CS.q_setQ, CS.z_setQ, CS.i_setF, CS.l_setF, CS.r_setF, CS.a_setF, CS.q_setF, CS.z_setF, CS.i_new, CS.l_new, CS.r_new, CS.a_new, CS.q_new, CS.z_new, Nat.reduceEqDiff, false_and, true_and, and_false, and_true, if_true, if_false, b2_0, b2_1, b2_nn, n0_or, n1_or, n10, n01, dec1, dec2, ob_ok, oe_l, oe_r, gl_ok, gle_ok, gn_s, gv_ok, gv_none, on_none, onSome,u3, h1']
    · rintro i _ hi ⟨C1, y, l1, l2, hL, hil, hck, rfl, hV, hc⟩
      unfold m_cVw_spotAt_B8 m_cVw_spotAt_J36
      cases l2 with
      | nil =>
        right
        have hy : y = none := hc
        subst hy
        simp only [on_none]
        refine ⟨_, rfl, C1, hV.mono (by omega), Or.inr ⟨?_, rfl⟩⟩
        unfold AS.fl
        rw [hL, List.append_nil]
        exact hck
      | cons t l2 =>
        obtain ⟨rfl, hc⟩ := hc
        have htL : t ∈ A.L x := by rw [hL]; simp
        have ht := L_mem hA htL
        have htj := (G.ln.1 t ht.1 ht.2.2).1
        obtain ⟨rd1, r1, r2, G1⟩ := hV.toRC G
        obtain ⟨C2, t1, t2, t3⟩ := cV_top G1 hA (hV.toVC hv) ht.1 ht.2.2 (by omega)
        have hV2 : VR A C rd (i + 1) C2 := hV.trans r1 r2 t2
        have hr2 : C2.r = C.r := hV2.rr
        have hlen : l1.length < (A.L x).length := by rw [hL]; simp
        simp (disch := omega) only [gd_ok, cl_nI, nI_s, nI_add, nI_leI, nI_ltI, nI_eq, if_pos, if_neg, q0, q1, q2, q3, q4, q5, q6, q7, q8, q9, q10, CS.i_setI, CS.l_setI, CS.r_setI, CS.a_setI, CS.q_setI, CS.z_setI, CS.i_setL, CS.l_setL, CS.r_setL, CS.a_setL, CS.q_setL, CS.z_setL, CS.i_setR, CS.l_setR, CS.r_setR, CS.a_setR, CS.q_setR, CS.z_setR, CS.i_setA, CS.l_setA, CS.r_setA, CS.a_setA, CS.q_setA, CS.z_setA, CS.i_setQ, CS.l_setQ, CS.r_setQ, CS.a_setQ, CS.q_setQ, CS.z_setQ, CS.i_setF, CS.l_setF, CS.r_setF, CS.a_setF, CS.q_setF, CS.z_setF, CS.i_new, CS.l_new, CS.r_new, CS.a_new, CS.q_new, CS.z_new, Nat.reduceEqDiff, false_and, true_and, and_false, and_true, if_true, if_false, b2_0, b2_1, b2_nn, n0_or, n1_or, n10, n01, dec1, dec2, ob_ok, oe_l, oe_r, gl_ok, gle_ok, gn_s, gv_ok, gv_none, on_none, onSome,u7, u10, t1, hr2]
        cases hf : A.flB r t with
        | false =>
          left
          simp only [Bool.false_eq_true, if_false, on_none]
          have h5 : ((l1 ++ [t]).filter (A.flB r)).length = (l1.filter (A.flB r)).length := by rw [List.filter_append]; simp [hf]
          exact ⟨_, rfl, by omega, C2, C.r 7 2 (A.sj t), l1 ++ [t], l2, by rw [hL]; simp, by simp; omega, by rw [h5]; exact hck, by rw [h5], hV2, hc⟩
        | true =>
          simp only [if_true, onSome]
          have h5 : ((l1 ++ [t]).filter (A.flB r)).length = (l1.filter (A.flB r)).length + 1 := by rw [List.filter_append]; simp [hf]
          by_cases c2 : k - (l1.filter (A.flB r)).length = 0
          · right
            rw [if_pos c2]
            refine ⟨_, rfl, C2, hV2.mono (by omega), Or.inl ⟨t, ?_, rfl⟩⟩
            unfold AS.fl
            rw [hL, List.filter_append, List.filter_cons_of_pos hf]
            have : k = (l1.filter (A.flB r)).length := by omega
            rw [this]
            simp
          · left
            rw [if_neg c2]
            refine ⟨_, rfl, by omega, C2, C.r 7 2 (A.sj t), l1 ++ [t], l2, by rw [hL]; simp, by simp; omega, by rw [h5]; omega, ?_, hV2, hc⟩
            rw [h5, show k - (l1.filter (A.flB r)).length = k - ((l1.filter (A.flB r)).length + 1) + 1 by omega, dec1]
    · exact ⟨C, C.r 3 13 (ox x), [], A.L x, rfl, rfl, by simp, by simp, VR.refl G, hch⟩
end VT
